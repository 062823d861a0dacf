/-! rate, special, set -/
section RAT
variable {N K td Q T W Z : Nat} {A B O ZK : Nat → Nat} {M LO LD : Nat → Int} {LE : Nat → List zb_EF} {R TK WK : Nat → Nat → Int} {s : sv_S}
variable {x1 x2 x3 x4 x5 x6 x7 : Int32} {f : Nat → Int}
theorem zb_did_mono {td Q : Nat} {L L' : List Nat} {v : Int32} {u : sv_S} {r : Int32 × sv_S} (h : zb_did N A B M O K LO LD LE td Q R T TK W WK Z ZK L u v r) (hs : ∀ x, x ∈ L → L'.contains x = true) (hf : zb_fx L' s u) : zb_did N A B M O K LO LD LE td Q R T TK W WK Z ZK L' s v r := ⟨h.1, h.2.1, zb_fx_trans hf (zb_fx_mono h.2.2 hs)⟩
/-- a rate comes at the end -/
theorem zb_c_add {x : Option (Int32 × sv_S)} {m : sv_S → Option (Int32 × sv_S)} (h : zb_J1 N A B M O K LO LD LE td Q R T TK W WK Z ZK s) (hQ : Q < 60) (hf : zb_rok Q f)
    (hx : zb_W x (zb_did N A B M O K LO LD LE td (Q + 1) (zb_RA R Q f) T TK W WK Z ZK zb_LQX s (zb_n Q)))
    (hm : ∀ u, zb_MM N A B M O K LO LD LE td Q R T TK W WK Z ZK u → zb_W (m u) (zb_didM N A B M O K LO LD LE td (Q + 1) (zb_RA R Q f) T TK W WK Z ZK (zb_LQM ++ zb_ZL) u (zb_n Q))) : zb_m11 x m s :=
  zb_m11_ch h (zb_MW_add h.1 hQ hf) hx hm (by decide) (by decide) (by decide)
theorem zb_pr_M (hW : zb_MW N A B M O K LO LD LE td Q R T TK W WK Z ZK) (hQ : Q < 60) (hM : zb_MM N A B M O K LO LD LE td Q R T TK W WK Z ZK s) {k9 k10 : Int32} (e1 : zb_i (f 1) = x1) (e2 : zb_i (f 2) = x2) (e3 : zb_i (f 3) = x3) (e4 : zb_i (f 4) = x4) (e5 : zb_i (f 5) = x5) (e6 : zb_i (f 6) = x7) (e8 : f 8 = -1) (e9 : zb_i (f 9) = k9) (e10 : zb_i (f 10) = k10) {d : Int} (hd : 0 ≤ d) (hd9 : d ≤ 9999) (o1 : 0 ≤ f 2) (o2 : f 2 ≤ 5) (e7 : f 7 = if d ≤ td + zb_v K LO LD LE (f 2) td 3 then td + zb_v K LO LD LE (f 2) td 3 else d) : zb_W ((F_Mo_printed x2 (zb_i d) s).bind fun r7 => (F_Mo_add x1 x2 x3 x4 x5 r7.1 x7 k9 k10 r7.2).bind fun r8 => some (r8.1, r8.2)) (zb_didM N A B M O K LO LD LE td (Q + 1) (zb_RA R Q f) T TK W WK Z ZK (zb_LQM ++ zb_ZL) s (zb_n Q)) := by
  subst e1 e2 e3 e4 e5 e6 e9 e10
  refine zb_Wbind2 (zb_printed hW.1 hM (by omega) o2 hd hd9) (fun r hr => ?_)
  obtain ⟨r1, r2, r3⟩ := hr
  rw [r1, ← e7]
  refine zb_Wbind2 (zb_addM hQ r2 e8) (fun q hq => zb_Wsome ⟨hq.1, hq.2.1, zb_fr_trans (zb_fr_mono r3 (by decide)) (zb_fr_mono hq.2.2 (by decide))⟩)
theorem zb_c_rate (h : zb_J s) : zb_m11 (F_X_rate x1 x2 x3 x4 x5 x6 x7 s) (F_Mo_rate x1 x2 x3 x4 x5 x6 x7) s := by
  obtain ⟨N, A, B, M, O, K, LO, LD, LE, td, Q, R, T, TK, W, WK, Z, ZK, h⟩ := h
  have hj := zb_J_of h
  have h0 := h
  obtain ⟨hW, hM, hX, hO, hB⟩ := h
  have hQ := hW.2.1
  have td9 := hW.1
  simp only [F_X_rate, zb_g_owner, zb_g_station, zb_g_good, zb_g_tape, zb_g_day, zb_g_tons, zb_g_stations, zb_g_no1, zb_h_owner, zb_h_station, zb_h_good, zb_h_day, zb_h_tons, zb_h_tape, zb_h_inL, Option.bind_some, zb_bz, Int32.reduceToInt, zb_m1t, zb_m3t]
  have mo : F_Mo_rate x1 x2 x3 x4 x5 x6 x7 = fun s => F_Mo_rate x1 x2 x3 x4 x5 x6 x7 s := rfl
  rw [mo]
  simp only [F_Mo_rate, zb_g_owner, zb_g_station, zb_g_good, zb_g_tape, zb_g_day, zb_g_tons, zb_g_stations, zb_g_no1, zb_h_owner, zb_h_station, zb_h_good, zb_h_day, zb_h_tons, zb_h_tape, zb_h_inL, Option.bind_some, zb_bz, Int32.reduceToInt, zb_m1t, zb_m3t]
  by_cases q1 : 0 ≤ x2.toInt ∧ x2.toInt ≤ 5
  rotate_left
  · simp only [q1, and_false, false_and, and_true, true_and, and_self, not_true, not_false_iff, if_false, if_true]; exact (zb_m11_no hj rfl rfl)
  by_cases q2 : 0 ≤ x3.toInt ∧ x3.toInt ≤ 15
  rotate_left
  · simp only [q1, q2, and_false, false_and, and_true, true_and, and_self, not_true, not_false_iff, if_false, if_true]; exact (zb_m11_no hj rfl rfl)
  by_cases q3 : 0 ≤ x4.toInt ∧ x4.toInt ≤ 15
  rotate_left
  · simp only [q1, q2, q3, and_false, false_and, and_true, true_and, and_self, not_true, not_false_iff, if_false, if_true]; exact (zb_m11_no hj rfl rfl)
  simp only [q1, q2, q3, and_false, false_and, and_true, true_and, and_self, not_true, not_false_iff, if_false, if_true]
  have main : x1 = (0 : Int32) ∨ x1 = (1 : Int32) ∨ x1 = (3 : Int32) ∨ x1 = (4 : Int32) → zb_m11 (F_X_rate_b40 x1 x2 x3 x4 x5 x6 x7 s) (fun s => F_Mo_rate_b46 x1 x2 x3 x4 x5 x6 x7 s) s := by
    intro hk
    have k05 : (0 ≤ x1.toInt ∧ x1.toInt ≤ 5 ∧ x1.toInt ≠ 2 ∧ x1.toInt ≠ 5) ∧ (x1.toInt = 3 ↔ x1 = (3 : Int32)) := by
      rcases hk with rfl | rfl | rfl | rfl <;> decide
    obtain ⟨k05, k3⟩ := k05
    simp only [F_X_rate_b40, zb_g_pence, zb_g_full hX hQ, hX.2.2.2.1, zb_g_owner, zb_g_station, zb_g_good, zb_g_tape, zb_g_day, zb_g_tons, zb_g_stations, zb_g_no1, zb_h_owner, zb_h_station, zb_h_good, zb_h_day, zb_h_tons, zb_h_tape, zb_h_inL, Option.bind_some, zb_bz, Int32.reduceToInt, zb_m1t, zb_m3t]
    have z1 : (x7 < (0 : Int32)) = (x7.toInt < 0) := by rw [show (0 : Int32) = zb_n 0 from rfl]; exact zb_c_ltn (by omega)
    have z2 : ((10 : Int32) ≤ x7) = (10 ≤ x7.toInt) := by rw [show (10 : Int32) = zb_n 10 from rfl]; exact zb_n_lec (by omega)
    have z3 : (x6 < zb_n td) = (x6.toInt < td) := zb_c_ltn (by omega)
    have z4 : (x6 ≤ (9999 : Int32)) = (x6.toInt ≤ 9999) := by rw [show (9999 : Int32) = zb_n 9999 from rfl]; exact zb_c_len (by omega)
    simp only [z1, z2, z3, z4]
    -- the model's rest in one form
    have mr : ∀ u, zb_MM N A B M O K LO LD LE td Q R T TK W WK Z ZK u → F_Mo_rate_b46 x1 x2 x3 x4 x5 x6 x7 u = if x3 = x4 then some ((-2 : Int32), u) else if ¬ (0 ≤ x7.toInt ∧ x7.toInt ≤ 9) then some ((-2 : Int32), u) else if ¬ (0 ≤ x5.toInt ∧ x5.toInt ≤ if x1 = (3 : Int32) then 99 else 9999) then some ((-2 : Int32), u) else if ¬ ((td : Int) ≤ x6.toInt ∧ x6.toInt ≤ 9999) then some ((-2 : Int32), u) else if ¬ Q < 60 then some ((-4 : Int32), u) else (F_Mo_printed x2 x6 u).bind fun r7 => (F_Mo_add x1 x2 x3 x4 x5 r7.1 x7 (1 : Int32) (-1 : Int32) r7.2).bind fun r8 => some (r8.1, r8.2) := by
      intro u hu
      simp only [F_Mo_rate_b46, F_Mo_rate_b81, hu.2.2.1, zb_h_full hu hQ, zb_tn (show td ≤ 2147483647 by omega), zb_g_owner, zb_g_station, zb_g_good, zb_g_tape, zb_g_day, zb_g_tons, zb_g_stations, zb_g_no1, zb_h_owner, zb_h_station, zb_h_good, zb_h_day, zb_h_tons, zb_h_tape, zb_h_inL, Option.bind_some, zb_bz, Int32.reduceToInt, zb_m1t, zb_m3t]
      by_cases e : x1 = (3 : Int32)
      · simp only [e, if_true]
      · simp only [e, if_false]
    by_cases c1 : x3 = x4
    · refine zb_m11_no (v := (-2 : Int32)) hj (if_pos c1) ?_
      rw [mr s hM, if_pos c1]
    rw [if_neg c1]
    by_cases c2 : 0 ≤ x7.toInt ∧ x7.toInt ≤ 9
    rotate_left
    · refine zb_m11_no (v := (-2 : Int32)) hj ?_ ?_
      · by_cases e : x7.toInt < 0
        · rw [if_pos e]
        · rw [if_neg e, if_pos (by omega)]
      · rw [mr s hM, if_neg c1, if_pos c2]
    rw [if_neg (show ¬ x7.toInt < 0 by omega), if_neg (show ¬ 10 ≤ x7.toInt by omega)]
    by_cases c3 : 0 ≤ x5.toInt ∧ x5.toInt ≤ if x1 = (3 : Int32) then 99 else 9999
    rotate_left
    · refine zb_m11_no (v := (-2 : Int32)) hj (if_pos c3) ?_
      rw [mr s hM, if_neg c1, if_neg (not_not_intro c2), if_pos c3]
    rw [if_neg (not_not_intro c3)]
    by_cases c4 : (td : Int) ≤ x6.toInt ∧ x6.toInt ≤ 9999
    rotate_left
    · refine zb_m11_no (v := (-2 : Int32)) hj ?_ ?_
      · by_cases e : x6.toInt < td
        · rw [if_pos e]
        · rw [if_neg e, if_neg (by omega)]
      · rw [mr s hM, if_neg c1, if_neg (not_not_intro c2), if_neg (not_not_intro c3), if_pos c4]
    rw [if_neg (show ¬ x6.toInt < td by omega), if_pos c4.2]
    by_cases c5 : Q < 60
    rotate_left
    · refine zb_m11_no (v := (-4 : Int32)) hj (if_neg (not_not_intro c5)) ?_
      rw [mr s hM, if_neg c1, if_neg (not_not_intro c2), if_neg (not_not_intro c3), if_neg (not_not_intro c4), if_pos c5]
    rw [if_pos (not_not_intro c5)]
    have vr := zb_v_rg hM.2.1 x2.toInt td 3
    have n34 : x3.toInt ≠ x4.toInt := fun e => c1 (Int32.toInt_inj.mp e)
    let f : Nat → Int := zb_fl [0, x1.toInt, x2.toInt, x3.toInt, x4.toInt, x5.toInt, x7.toInt, if x6.toInt ≤ td + zb_v K LO LD LE x2.toInt td 3 then td + zb_v K LO LD LE x2.toInt td 3 else x6.toInt, -1, 1, -1]
    have p5 : x5.toInt ≤ 9999 ∧ (x1.toInt = 3 → x5.toInt ≤ 99) := by
      refine ⟨?_, fun e => ?_⟩
      · have := c3.2; split at this <;> omega
      · have := c3.2; rw [if_pos (k3.mp e)] at this; exact this
    have f7 : 0 ≤ f 7 ∧ f 7 ≤ 19998 := by
      show 0 ≤ (if x6.toInt ≤ td + zb_v K LO LD LE x2.toInt td 3 then td + zb_v K LO LD LE x2.toInt td 3 else x6.toInt) ∧ (if x6.toInt ≤ td + zb_v K LO LD LE x2.toInt td 3 then td + zb_v K LO LD LE x2.toInt td 3 else x6.toInt) ≤ 19998
      split <;> omega
    have rok : zb_rok Q f := by
      refine ⟨⟨k05.1, k05.2.1⟩, q1, q2, q3, n34, ⟨c3.1, p5.1, p5.2⟩, ⟨c2.1, ?_, fun _ => c2.2⟩, f7, ⟨(by decide : (-1 : Int) ≤ -1), (by decide : (-1 : Int) ≤ 9999)⟩, ⟨(by decide : (1 : Int) ≤ 1), (by decide : (1 : Int) ≤ 99), fun _ => rfl⟩, ⟨(by decide : (-1 : Int) ≤ -1), ?_, fun e => absurd e k05.2.2.2⟩⟩
      · show x7.toInt ≤ 19; omega
      · show (-1 : Int) < Q; omega
    refine zb_c_add (f := f) h0 c5 rok ?_ (fun u hu => ?_)
    · conv => lhs; rw [zb_i_of x1, zb_i_of x2, zb_i_of x3, zb_i_of x4, zb_i_of x5, zb_i_of x7, zb_i_of x6]
      refine zb_Wbind2 (zb_soonest hQ td9 hX (by omega) q1.2) (fun r hr => ?_)
      obtain ⟨r1, r2, r3⟩ := hr
      rw [r1]
      unfold F_JM_max
      simp only [zb_i_lt (show -2147483648 ≤ x6.toInt by omega) (show x6.toInt ≤ 2147483647 by omega) (show -2147483648 ≤ (td : Int) + zb_v K LO LD LE x2.toInt td 3 by omega) (show (td : Int) + zb_v K LO LD LE x2.toInt td 3 ≤ 2147483647 by omega)]
      have e7 : (if x6.toInt < td + zb_v K LO LD LE x2.toInt td 3 then some (zb_i (td + zb_v K LO LD LE x2.toInt td 3)) else some (zb_i x6.toInt)) = some (zb_i (f 7)) := by
        show _ = some (zb_i (if x6.toInt ≤ td + zb_v K LO LD LE x2.toInt td 3 then td + zb_v K LO LD LE x2.toInt td 3 else x6.toInt))
        by_cases e : x6.toInt < td + zb_v K LO LD LE x2.toInt td 3
        · rw [if_pos e, if_pos (by omega)]
        · rw [if_neg e]
          by_cases e2 : x6.toInt ≤ td + zb_v K LO LD LE x2.toInt td 3
          · rw [if_pos e2]; congr 2; omega
          · rw [if_neg e2]
      rw [e7]
      refine zb_Wbind (zb_Wsome ?_)
      exact zb_Wbind2 (zb_addX (f := f) c5 r2 rfl rfl rfl) (fun q hq => zb_Wsome (zb_did_mono hq (by decide) (zb_fx_mono r3 (by decide))))
    · rw [mr u hu, if_neg c1, if_neg (not_not_intro c2), if_neg (not_not_intro c3), if_neg (not_not_intro c4), if_neg (not_not_intro c5)]
      rw [show x6 = zb_i x6.toInt from zb_i_of x6]
      exact zb_pr_M (f := f) hW c5 hu (zb_i_of x1).symm (zb_i_of x2).symm (zb_i_of x3).symm (zb_i_of x4).symm (zb_i_of x5).symm (zb_i_of x7).symm rfl rfl zb_m1.symm (by omega) (by omega) q1.1 q1.2 rfl
  by_cases k0 : x1 = (0 : Int32)
  · have z := main (Or.inl k0); simp only [k0, if_true] at z ⊢; exact z
  by_cases k1 : x1 = (1 : Int32)
  · have z := main (Or.inr (Or.inl k1)); simp only [k1, if_true] at z ⊢; exact z
  by_cases k2 : x1 = (3 : Int32)
  · have z := main (Or.inr (Or.inr (Or.inl k2))); simp only [k2, if_true] at z ⊢; exact z
  by_cases k4 : x1 = (4 : Int32)
  · have z := main (Or.inr (Or.inr (Or.inr k4))); simp only [k4, if_true] at z ⊢; exact z
  simp only [k0, k1, k2, k4, if_false]
  exact zb_m11_no hj rfl rfl
end RAT
