/-! special, set -/
def zb_Rk (R : Nat → Nat → Int) (r0 k : Nat) (v : Int) : Nat → Nat → Int := fun r f => if r = r0 ∧ f = k then v else R r f
section SPC
variable {N K td Q T W Z : Nat} {A B O ZK : Nat → Nat} {M LO LD : Nat → Int} {LE : Nat → List zb_EF} {R TK WK : Nat → Nat → Int} {s : sv_S}
variable {x1 x2 x3 x4 x5 x6 x7 : Int32} {f : Nat → Int} {r0 k0 : Nat} {v : Int}
theorem zb_QX_k (h : zb_QX Q R s) (hr : r0 < Q) (hk : k0 ≠ 0 ∧ k0 ≠ 8 ∧ k0 ≠ 11) : zb_QX Q (zb_Rk R r0 k0 v) (ss_setI s (91 + r0) k0 (zb_i v)) := by
  refine ⟨?_, fun r hr' => ⟨?_, fun f h1 h2 => ?_, ?_⟩, fun r h1 h2 => ?_⟩
  · rw [zb_set_ne (by omega)]; exact h.1
  · rw [zb_set_ne (by omega)]; exact (h.2.1 r hr').1
  · unfold zb_Rk
    by_cases q : r = r0 ∧ f = k0
    · rw [if_pos q, q.1, q.2, zb_set_eq]
    · rw [if_neg q, zb_set_ne (by omega)]; exact (h.2.1 r hr').2.1 f h1 h2
  · rw [zb_set_ne (by omega)]
    unfold zb_Rk
    rw [if_neg (by omega)]; exact (h.2.1 r hr').2.2
  · rw [zb_set_ne (by omega)]; exact h.2.2 r h1 h2
theorem zb_Rk_RA : zb_Rk (zb_RA R Q f) Q k0 v = zb_RA R Q (fun k => if k = k0 then v else f k) := by
  funext r k
  unfold zb_Rk zb_RA
  by_cases e : r = Q
  · by_cases e2 : k = k0
    · rw [if_pos ⟨e, e2⟩, if_pos e, if_pos e2]
    · rw [if_neg (fun z => e2 z.2), if_pos e, if_pos e, if_neg e2]
  · rw [if_neg (fun z => e z.1), if_neg e, if_neg e]
theorem zb_R8_RA (h : r0 ≠ Q) : zb_R8 (zb_RA R Q f) r0 v = zb_RA (zb_R8 R r0 v) Q f := by
  funext r k
  unfold zb_R8 zb_RA
  by_cases e : r = Q
  · rw [if_neg (fun z => h (z.1.symm.trans e)), if_pos e, if_pos e]
  · rw [if_neg e, if_neg e]
theorem zb_p2 : ((2 : Int32) = (3 : Int32)) = False := eq_false (by decide)
theorem zb_p5 : ((5 : Int32) = (3 : Int32)) = False := eq_false (by decide)
theorem zb_c_special (h : zb_J s) : zb_m11 (F_X_special x1 x2 x3 x4 x5 x6 s) (F_Mo_special x1 x2 x3 x4 x5 x6) s := by
  obtain ⟨N, A, B, M, O, K, LO, LD, LE, td, Q, R, T, TK, W, WK, Z, ZK, h⟩ := h
  have hj := zb_J_of h
  have h0 := h
  obtain ⟨hW, hM, hX, hO, hB⟩ := h
  have hQ := hW.2.1
  have td9 := hW.1
  simp only [F_X_special, zb_g_pence, zb_p2, if_false, zb_g_full hX hQ, zb_g_owner, zb_g_station, zb_g_good, zb_g_tape, zb_g_day, zb_g_tons, zb_g_stations, zb_g_no1, zb_h_owner, zb_h_station, zb_h_good, zb_h_day, zb_h_tons, zb_h_tape, zb_h_inL, Option.bind_some, zb_bz, Int32.reduceToInt, zb_m1t, zb_m3t]
  have mo : F_Mo_special x1 x2 x3 x4 x5 x6 = fun s => F_Mo_special x1 x2 x3 x4 x5 x6 s := rfl
  rw [mo]
  simp only [F_Mo_special, zb_g_owner, zb_g_station, zb_g_good, zb_g_tape, zb_g_day, zb_g_tons, zb_g_stations, zb_g_no1, zb_h_owner, zb_h_station, zb_h_good, zb_h_day, zb_h_tons, zb_h_tape, zb_h_inL, Option.bind_some, zb_bz, Int32.reduceToInt, zb_m1t, zb_m3t]
  by_cases q1 : 0 ≤ x1.toInt ∧ x1.toInt ≤ 5
  rotate_left
  · simp only [q1, and_false, false_and, and_true, true_and, and_self, not_true, not_false_iff, if_false, if_true]; exact (zb_m11_no hj rfl rfl)
  by_cases q2 : 0 ≤ x2.toInt ∧ x2.toInt ≤ 15
  rotate_left
  · simp only [q1, q2, and_false, false_and, and_true, true_and, and_self, not_true, not_false_iff, if_false, if_true]; exact (zb_m11_no hj rfl rfl)
  by_cases q3 : 0 ≤ x3.toInt ∧ x3.toInt ≤ 15
  rotate_left
  · simp only [q1, q2, q3, and_false, false_and, and_true, true_and, and_self, not_true, not_false_iff, if_false, if_true]; exact (zb_m11_no hj rfl rfl)
  by_cases q4 : 0 ≤ x5.toInt ∧ x5.toInt ≤ 19
  rotate_left
  · simp only [q1, q2, q3, q4, and_false, false_and, and_true, true_and, and_self, not_true, not_false_iff, if_false, if_true]; exact (zb_m11_no hj rfl rfl)
  simp only [q1, q2, q3, q4, and_false, false_and, and_true, true_and, and_self, not_true, not_false_iff, if_false, if_true]
  by_cases c1 : x2 = x3
  · simp only [c1, if_true]; exact zb_m11_no hj rfl rfl
  simp only [c1, if_false]
  by_cases q5 : 0 ≤ x4.toInt ∧ x4.toInt ≤ 9999
  rotate_left
  · simp only [q5, and_false, false_and, and_true, true_and, and_self, not_true, not_false_iff, if_false, if_true]; exact (zb_m11_no hj rfl rfl)
  by_cases q6 : 1 ≤ x6.toInt ∧ x6.toInt ≤ 99
  rotate_left
  · simp only [q5, q6, and_false, false_and, and_true, true_and, and_self, not_true, not_false_iff, if_false, if_true]; exact (zb_m11_no hj rfl rfl)
  simp only [q5, q6, and_false, false_and, and_true, true_and, and_self, not_true, not_false_iff, if_false, if_true]
  by_cases c5 : Q < 60
  rotate_left
  · refine zb_m11_no (v := (-4 : Int32)) hj (if_neg (not_not_intro c5)) ?_
    simp only [zb_h_full hM hQ]; exact if_pos c5
  rw [if_pos (not_not_intro c5)]
  have vr := zb_v_rg hM.2.1 x1.toInt td 3
  have n34 : x2.toInt ≠ x3.toInt := fun e => c1 (Int32.toInt_inj.mp e)
  let f : Nat → Int := zb_fl [0, 2, x1.toInt, x2.toInt, x3.toInt, x4.toInt, x5.toInt, td + zb_v K LO LD LE x1.toInt td 3, -1, x6.toInt, -1]
  let f1 : Nat → Int := zb_fl [0, 2, x1.toInt, x2.toInt, x3.toInt, x4.toInt, x5.toInt, td + zb_v K LO LD LE x1.toInt td 3, -1, 1, -1]
  have rok : zb_rok Q f := by
    refine ⟨⟨(by decide : (0 : Int) ≤ 2), (by decide : (2 : Int) ≤ 5)⟩, q1, q2, q3, n34, ⟨q5.1, q5.2, fun e => absurd e (by decide : ¬ (2 : Int) = 3)⟩, ⟨q4.1, q4.2, fun e => absurd rfl e⟩, ⟨?_, ?_⟩, ⟨(by decide : (-1 : Int) ≤ -1), (by decide : (-1 : Int) ≤ 9999)⟩, ⟨q6.1, q6.2, fun e => absurd rfl e⟩, ⟨(by decide : (-1 : Int) ≤ -1), ?_, fun e => absurd e (by decide : ¬ (2 : Int) = 5)⟩⟩
    · show 0 ≤ (td : Int) + zb_v K LO LD LE x1.toInt td 3; omega
    · show (td : Int) + zb_v K LO LD LE x1.toInt td 3 ≤ 19998; omega
    · show (-1 : Int) < Q; omega
  have ef : (fun k => if k = 9 then x6.toInt else f1 k) = fun k => if k = 9 then x6.toInt else f k := by
    funext k
    by_cases e : k = 9
    · rw [if_pos e, if_pos e]
    · rw [if_neg e, if_neg e]
      show ([0, 2, x1.toInt, x2.toInt, x3.toInt, x4.toInt, x5.toInt, td + zb_v K LO LD LE x1.toInt td 3, -1, 1, -1] : List Int).getD k 0 = ([0, 2, x1.toInt, x2.toInt, x3.toInt, x4.toInt, x5.toInt, td + zb_v K LO LD LE x1.toInt td 3, -1, x6.toInt, -1] : List Int).getD k 0
      match k, e with
      | 0, _ | 1, _ | 2, _ | 3, _ | 4, _ | 5, _ | 6, _ | 7, _ | 8, _ | 10, _ => rfl
      | n + 11, _ => rfl
  have ef2 : (fun k => if k = 9 then x6.toInt else f k) = f := by
    funext k
    by_cases e : k = 9
    · rw [if_pos e, e]; rfl
    · rw [if_neg e]
  refine zb_c_add (f := f) h0 c5 rok ?_ (fun u hu => ?_)
  · conv => lhs; rw [zb_i_of x1, zb_i_of x2, zb_i_of x3, zb_i_of x4, zb_i_of x5, zb_i_of x6]
    refine zb_Wbind2 (zb_soonest hQ td9 hX (by omega) q1.2) (fun r hr => ?_)
    obtain ⟨r1, r2, r3⟩ := hr
    rw [r1, show (2 : Int32) = zb_i 2 from zb_n_i 2]
    refine zb_Wbind2 (zb_addX (f := f1) c5 r2 rfl rfl rfl) (fun q hq => ?_)
    obtain ⟨p1, p2, p3⟩ := hq
    rw [p1, zb_row c5]
    refine zb_Wbind (zb_Wsome (zb_Wpos (zb_ok91 c5) (zb_Wlet (zb_Wsome ?_))))
    have g1 : zb_fr [91] q.2 (ss_setI q.2 (91 + Q) 9 (zb_i x6.toInt)) := zb_fr_set (zb_fr_refl _ _) (by rw [zb_rg91 c5]; rfl)
    refine ⟨rfl, ?_, zb_fx_trans (zb_fx_mono r3 (by decide)) (zb_fx_trans (zb_fx_mono p3 (by decide)) (zb_fx_mono (zb_fr_fx g1) (by decide)))⟩
    have k := zb_QX_k (r0 := Q) (k0 := 9) (v := x6.toInt) p2.2.2.2.2.1 (by omega) (by omega)
    rw [zb_Rk_RA, ef, ef2] at k
    exact zb_MX_Q (by omega) p2 g1 (by decide) (by decide) k
  · rw [if_neg (by rw [zb_h_full hu hQ]; exact not_not_intro c5), hu.2.2.1, zb_n_i td]
    exact zb_pr_M (f := f) hW c5 hu rfl (zb_i_of x1).symm (zb_i_of x2).symm (zb_i_of x3).symm (zb_i_of x4).symm (zb_i_of x5).symm rfl (zb_i_of x6).symm zb_m1.symm (show (0 : Int) ≤ td by omega) (by omega) q1.1 q1.2 (by show (td : Int) + zb_v K LO LD LE x1.toInt td 3 = if (td : Int) ≤ td + zb_v K LO LD LE x1.toInt td 3 then td + zb_v K LO LD LE x1.toInt td 3 else td; rw [if_pos (by omega)])
end SPC
