/-! cheap -/
section CHP
variable {N K td Q T W Z : Nat} {A B O ZK : Nat → Nat} {M LO LD : Nat → Int} {LE : Nat → List zb_EF} {R TK WK : Nat → Nat → Int} {s : sv_S}
variable {x1 x2 x3 x4 x5 x6 x7 : Int32}
/-- what cheap answers -/
def zb_chv (f : Nat → Int) (Fr To : Nat → Nat) (Q b a : Nat) (x : Int) : Int :=
  if zb_Sx f Fr To Q b 8 a < zb_mu then (if x = 0 then zb_Sx f Fr To Q b 8 a else if x = 1 then (zb_cm f Fr To Q b a : Int) else if x - 10 < zb_cm f Fr To Q b a then (zb_ri f Fr To Q b (zb_cm f Fr To Q b a) a (x - 10).toNat : Int) else -1) else -3
theorem zb_c_cheap (h : zb_J s) : zb_m11 (F_X_cheap x1 x2 x3 x4 x5 x6 s) (F_Mo_cheap x1 x2 x3 x4 x5 x6) s := by
  obtain ⟨N, A, B, M, O, K, LO, LD, LE, td, Q, R, T, TK, W, WK, Z, ZK, h⟩ := h
  have hW := h.1
  have hQ := hW.2.1
  have z1 : (x6 < (0 : Int32)) = (x6.toInt < 0) := by rw [show (0 : Int32) = zb_n 0 from rfl]; exact zb_c_ltn (by omega)
  have z2 : (x6 ≤ (1 : Int32)) = (x6.toInt ≤ 1) := by rw [show (1 : Int32) = zb_n 1 from rfl]; exact zb_c_len (by omega)
  have z3 : ((10 : Int32) ≤ x6) = (10 ≤ x6.toInt) := by rw [show (10 : Int32) = zb_n 10 from rfl]; exact zb_n_lec (by omega)
  have z4 : (x6 = (0 : Int32)) = (x6.toInt = 0) := by rw [show (0 : Int32) = zb_n 0 from rfl]; exact zb_c_eqn (by omega)
  have z5 : (x6 = (1 : Int32)) = (x6.toInt = 1) := by rw [show (1 : Int32) = zb_n 1 from rfl]; exact zb_c_eqn (by omega)
  have xr := Int32.toInt_lt x6
  refine zb_m11_of (v := if ¬ (0 ≤ x1.toInt ∧ x1.toInt ≤ 15) then (-1 : Int32) else if ¬ (0 ≤ x2.toInt ∧ x2.toInt ≤ 15) then (-1 : Int32) else if ¬ (0 ≤ x3.toInt ∧ x3.toInt ≤ 19) then (-1 : Int32) else if ¬ (0 ≤ x6.toInt) then (-1 : Int32) else if ¬ (x6.toInt ≤ 1 ∨ 10 ≤ x6.toInt) then (-1 : Int32) else if x1 = x2 then (-2 : Int32) else if ¬ (1 ≤ x4.toInt ∧ x4.toInt ≤ 99) then (-2 : Int32) else if ¬ (0 ≤ x5.toInt ∧ x5.toInt ≤ 9999) then (-2 : Int32) else zb_i (zb_chv (fun r => zb_fee N A B M O K LO LD LE (R r) (R r 5) x3.toInt.toNat x4.toInt x5.toInt) (fun r => (R r 3).toNat) (fun r => (R r 4).toNat) Q x2.toInt.toNat x1.toInt.toNat x6.toInt)) (N := N) (A := A) (B := B) (M := M) (O := O) (K := K) (LO := LO) (LD := LD) (LE := LE) (td := td) (Q := Q) (R := R) (T := T) (TK := TK) (W := W) (WK := WK) (Z := Z) (ZK := ZK) ?_ (fun u hu => ?_)
  · have kr := zb_keep_refl s
    simp only [F_X_cheap, z1, z2, z3, zb_g_owner, zb_g_station, zb_g_good, zb_g_tape, zb_g_day, zb_g_tons, zb_g_stations, zb_g_no1, zb_h_owner, zb_h_station, zb_h_good, zb_h_day, zb_h_tons, zb_h_tape, zb_h_inL, Option.bind_some, zb_bz, Int32.reduceToInt, zb_m1t, zb_m3t]
    by_cases q1 : 0 ≤ x1.toInt ∧ x1.toInt ≤ 15
    rotate_left
    · simp only [q1, and_false, false_and, and_true, true_and, and_self, not_true, not_false_iff, if_false, if_true]; exact (zb_Wsome ⟨rfl, h, kr⟩)
    by_cases q2 : 0 ≤ x2.toInt ∧ x2.toInt ≤ 15
    rotate_left
    · simp only [q1, q2, and_false, false_and, and_true, true_and, and_self, not_true, not_false_iff, if_false, if_true]; exact (zb_Wsome ⟨rfl, h, kr⟩)
    by_cases q3 : 0 ≤ x3.toInt ∧ x3.toInt ≤ 19
    rotate_left
    · simp only [q1, q2, q3, and_false, false_and, and_true, true_and, and_self, not_true, not_false_iff, if_false, if_true]; exact (zb_Wsome ⟨rfl, h, kr⟩)
    simp only [q1, q2, q3, and_false, false_and, and_true, true_and, and_self, not_true, not_false_iff, if_false, if_true]
    by_cases q4 : 0 ≤ x6.toInt
    rotate_left
    · rw [if_pos (show x6.toInt < 0 by omega)]; exact zb_Wsome ⟨by rw [if_pos q4], h, kr⟩
    rw [if_neg (show ¬ x6.toInt < 0 by omega)]
    have b35 : (x6.toInt ≤ 1 ∨ 10 ≤ x6.toInt) → zb_W (F_X_cheap_b35 x1 x2 x3 x4 x5 x6 s) (zb_ans N A B M O K LO LD LE td Q R T TK W WK Z ZK s (if x1 = x2 then (-2 : Int32) else if ¬ (1 ≤ x4.toInt ∧ x4.toInt ≤ 99) then (-2 : Int32) else if ¬ (0 ≤ x5.toInt ∧ x5.toInt ≤ 9999) then (-2 : Int32) else zb_i (zb_chv (fun r => zb_fee N A B M O K LO LD LE (R r) (R r 5) x3.toInt.toNat x4.toInt x5.toInt) (fun r => (R r 3).toNat) (fun r => (R r 4).toNat) Q x2.toInt.toNat x1.toInt.toNat x6.toInt))) := by
      intro qx
      simp only [F_X_cheap_b35, z4, z5, zb_g_owner, zb_g_station, zb_g_good, zb_g_tape, zb_g_day, zb_g_tons, zb_g_stations, zb_g_no1, zb_h_owner, zb_h_station, zb_h_good, zb_h_day, zb_h_tons, zb_h_tape, zb_h_inL, Option.bind_some, zb_bz, Int32.reduceToInt, zb_m1t, zb_m3t]
      by_cases q5 : x1 = x2
      · rw [if_pos q5, if_pos q5]; exact zb_Wsome ⟨rfl, h, kr⟩
      rw [if_neg q5, if_neg q5]
      by_cases q6 : 1 ≤ x4.toInt ∧ x4.toInt ≤ 99
      rotate_left
      · simp only [q6, and_false, false_and, and_true, true_and, and_self, not_true, not_false_iff, if_false, if_true]; exact (zb_Wsome ⟨rfl, h, kr⟩)
      by_cases q7 : 0 ≤ x5.toInt ∧ x5.toInt ≤ 9999
      rotate_left
      · simp only [q6, q7, and_false, false_and, and_true, true_and, and_self, not_true, not_false_iff, if_false, if_true]; exact (zb_Wsome ⟨rfl, h, kr⟩)
      simp only [q6, q7, and_false, false_and, and_true, true_and, and_self, not_true, not_false_iff, if_false, if_true]
      have hf := zb_fJ h (g := x3.toInt.toNat) (d := x5.toInt) q6.1 q6.2
      conv => lhs; rw [zb_an q1.1, zb_an q2.1, zb_an q3.1, zb_i_of x4, zb_i_of x5]
      refine zb_Wbind2 (zb_carry_X (b := 0) h (by omega) q6.1 q6.2 q7.1 q7.2) (fun u hu => ?_)
      obtain ⟨u1, u2, u3⟩ := hu
      refine zb_Wbind2 (zb_reach_X u1 (fun r hr => (hf r hr).2) u3 (by omega)) (fun v hv => ?_)
      obtain ⟨v1, v2, v3, L, v4⟩ := hv
      have kv : zb_keep s v := zb_keep_trans (zb_keep_fx u2 rfl) (zb_keep_fr v2 rfl)
      have hC := zb_MX_RC v1.1 v1.2.2.1
      rw [zb_leastFrom v4 (by omega)]
      refine zb_Wbind (zb_Wsome ?_)
      have mu := zb_Sx_mu (f := fun r => zb_fee N A B M O K LO LD LE (R r) (R r 5) x3.toInt.toNat x4.toInt x5.toInt) (Fr := fun r => (R r 3).toNat) (To := fun r => (R r 4).toNat) (Q := Q) (b := x2.toInt.toNat) 8 x1.toInt.toNat
      have c8 := (zb_cm_ok (f := fun r => zb_fee N A B M O K LO LD LE (R r) (R r 5) x3.toInt.toNat x4.toInt x5.toInt) (Fr := fun r => (R r 3).toNat) (To := fun r => (R r 4).toNat) (Q := Q) (b := x2.toInt.toNat) x1.toInt.toNat).1
      unfold zb_chv
      by_cases w : zb_Sx (fun r => zb_fee N A B M O K LO LD LE (R r) (R r 5) x3.toInt.toNat x4.toInt x5.toInt) (fun r => (R r 3).toNat) (fun r => (R r 4).toNat) Q x2.toInt.toNat 8 x1.toInt.toNat < zb_mu
      · rw [if_pos w, if_pos w]
        refine zb_Wpos (zb_ge0 mu.1 (by unfold zb_mu at mu; omega)) ?_
        by_cases e0 : x6.toInt = 0
        · rw [if_pos e0, if_pos e0]
          exact zb_Wbind (zb_Wsome (zb_Wsome ⟨rfl, v1, kv⟩))
        rw [if_neg e0, if_neg e0]
        refine zb_Wbind2 (zb_legsFrom v4 (by omega)) (fun c hc => ?_)
        obtain ⟨rfl, cL⟩ := hc
        by_cases e1 : x6.toInt = 1
        · rw [if_pos e1, if_pos e1]
          exact zb_Wsome ⟨zb_n_i _, v1, kv⟩
        rw [if_neg e1, if_neg e1]
        have ex : x6 - (10 : Int32) = zb_n (x6.toInt - 10).toNat := by
          conv => lhs; rw [zb_i_of x6]
          rw [show (10 : Int32) = zb_i 10 from zb_n_i 10, zb_i_sub, zb_in_n (by omega)]
        rw [ex]
        by_cases e2 : x6.toInt - 10 < zb_cm (fun r => zb_fee N A B M O K LO LD LE (R r) (R r 5) x3.toInt.toNat x4.toInt x5.toInt) (fun r => (R r 3).toNat) (fun r => (R r 4).toNat) Q x2.toInt.toNat x1.toInt.toNat
        · rw [if_pos e2]
          refine zb_Wneg (by rw [zb_n_le (by omega) (by omega)]; omega) ?_
          refine zb_Wbind2 (zb_leg (fun r hr => (hf r hr).2) hC v3 v4 (by omega) w (by omega)) (fun l hl => zb_Wsome ⟨?_, v1, kv⟩)
          rw [hl]; exact zb_n_i _
        · rw [if_neg e2]
          exact zb_Wpos (by rw [zb_n_le (by omega) (by omega)]; omega) (zb_Wsome ⟨zb_m1, v1, kv⟩)
      · rw [if_neg w, if_neg w]
        exact zb_Wneg (by decide) (zb_Wsome ⟨zb_m3, v1, kv⟩)
    by_cases q5 : x6.toInt ≤ 1
    · rw [if_pos q5, if_neg (show ¬ ¬ (0 ≤ x6.toInt) by omega), if_neg (show ¬ ¬ (x6.toInt ≤ 1 ∨ 10 ≤ x6.toInt) by omega)]
      exact b35 (Or.inl q5)
    rw [if_neg q5]
    by_cases q6 : 10 ≤ x6.toInt
    · rw [if_pos q6, if_neg (show ¬ ¬ (0 ≤ x6.toInt) by omega), if_neg (show ¬ ¬ (x6.toInt ≤ 1 ∨ 10 ≤ x6.toInt) by omega)]
      exact b35 (Or.inr q6)
    · rw [if_neg q6, if_neg (show ¬ ¬ (0 ≤ x6.toInt) by omega), if_pos (show ¬ (x6.toInt ≤ 1 ∨ 10 ≤ x6.toInt) by omega)]
      exact zb_Wsome ⟨rfl, h, kr⟩
  · have kr := zb_keep_refl u
    simp only [F_Mo_cheap, z1, z4, z5, zb_g_owner, zb_g_station, zb_g_good, zb_g_tape, zb_g_day, zb_g_tons, zb_g_stations, zb_g_no1, zb_h_owner, zb_h_station, zb_h_good, zb_h_day, zb_h_tons, zb_h_tape, zb_h_inL, Option.bind_some, zb_bz, Int32.reduceToInt, zb_m1t, zb_m3t]
    by_cases q1 : 0 ≤ x1.toInt ∧ x1.toInt ≤ 15
    rotate_left
    · simp only [q1, and_false, false_and, and_true, true_and, and_self, not_true, not_false_iff, if_false, if_true]; exact (zb_Wsome ⟨rfl, hu, kr⟩)
    by_cases q2 : 0 ≤ x2.toInt ∧ x2.toInt ≤ 15
    rotate_left
    · simp only [q1, q2, and_false, false_and, and_true, true_and, and_self, not_true, not_false_iff, if_false, if_true]; exact (zb_Wsome ⟨rfl, hu, kr⟩)
    by_cases q3 : 0 ≤ x3.toInt ∧ x3.toInt ≤ 19
    rotate_left
    · simp only [q1, q2, q3, and_false, false_and, and_true, true_and, and_self, not_true, not_false_iff, if_false, if_true]; exact (zb_Wsome ⟨rfl, hu, kr⟩)
    simp only [q1, q2, q3, and_false, false_and, and_true, true_and, and_self, not_true, not_false_iff, if_false, if_true]
    by_cases q4 : 0 ≤ x6.toInt
    rotate_left
    · rw [if_pos (show x6.toInt < 0 by omega)]; exact zb_Wsome ⟨by rw [if_pos q4], hu, kr⟩
    rw [if_neg (show ¬ x6.toInt < 0 by omega), if_neg (show ¬ ¬ (0 ≤ x6.toInt) by omega)]
    by_cases q5 : x6.toInt ≤ 1 ∨ 10 ≤ x6.toInt
    rotate_left
    · rw [if_neg (show ¬ ¬ (2 ≤ x6.toInt ∧ x6.toInt ≤ 9) by omega), if_pos q5]; exact zb_Wsome ⟨rfl, hu, kr⟩
    rw [if_pos (show ¬ (2 ≤ x6.toInt ∧ x6.toInt ≤ 9) by omega), if_neg (show ¬ ¬ (x6.toInt ≤ 1 ∨ 10 ≤ x6.toInt) from fun z => z q5)]
    by_cases q6 : x1 = x2
    · rw [if_pos q6, if_pos q6]; exact zb_Wsome ⟨rfl, hu, kr⟩
    rw [if_neg q6, if_neg q6]
    by_cases q7 : 1 ≤ x4.toInt ∧ x4.toInt ≤ 99
    rotate_left
    · simp only [q7, and_false, false_and, and_true, true_and, and_self, not_true, not_false_iff, if_false, if_true]; exact (zb_Wsome ⟨rfl, hu, kr⟩)
    by_cases q8 : 0 ≤ x5.toInt ∧ x5.toInt ≤ 9999
    rotate_left
    · simp only [q7, q8, and_false, false_and, and_true, true_and, and_self, not_true, not_false_iff, if_false, if_true]; exact (zb_Wsome ⟨rfl, hu, kr⟩)
    simp only [q7, q8, and_false, false_and, and_true, true_and, and_self, not_true, not_false_iff, if_false, if_true]
    have ne : x1.toInt.toNat ≠ x2.toInt.toNat := fun z => q6 (Int32.toInt_inj.mp (by omega))
    conv => lhs; rw [zb_an q1.1, zb_an q2.1, zb_an q3.1, zb_i_of x4, zb_i_of x5]
    refine zb_Wbind2 (zb_prepare hW hu.2.1 q8.1 q8.2) (fun p hp => ?_)
    have J2 := zb_J_M hu hp.1 (by decide) (by decide)
    refine zb_Wbind2 (zb_findCheap J2 hp.2 (by omega) (by omega) ne (by omega) q7.1 q7.2 q8.1 q8.2) (fun r hr => ?_)
    obtain ⟨r1, r2, r3, r4, t, _, c1, c2⟩ := hr
    have kv : zb_keep u r.2 := zb_keep_trans (zb_keep_fr hp.1 rfl) (zb_keep_fr r3 rfl)
    have c8 := (zb_cm_ok (f := fun r => zb_fee N A B M O K LO LD LE (R r) (R r 5) x3.toInt.toNat x4.toInt x5.toInt) (Fr := fun r => (R r 3).toNat) (To := fun r => (R r 4).toNat) (Q := Q) (b := x2.toInt.toNat) x1.toInt.toNat).1
    rw [c1]
    unfold zb_chv
    by_cases w : zb_Sx (fun r => zb_fee N A B M O K LO LD LE (R r) (R r 5) x3.toInt.toNat x4.toInt x5.toInt) (fun r => (R r 3).toNat) (fun r => (R r 4).toNat) Q x2.toInt.toNat 8 x1.toInt.toNat < zb_mu
    · obtain ⟨d1, d2, d3⟩ := c2 w
      rw [if_pos w]
      refine zb_Wneg (zb_bT w) ?_
      by_cases e0 : x6.toInt = 0
      · rw [if_pos e0, if_pos e0]
        exact zb_Wsome ⟨d2, r1, kv⟩
      rw [if_neg e0, if_neg e0]
      by_cases e1 : x6.toInt = 1
      · rw [if_pos e1, if_pos e1]
        exact zb_Wsome ⟨by rw [d1]; exact zb_n_i _, r1, kv⟩
      rw [if_neg e1, if_neg e1]
      have ex : x6 - (10 : Int32) = zb_n (x6.toInt - 10).toNat := by
        conv => lhs; rw [zb_i_of x6]
        rw [show (10 : Int32) = zb_i 10 from zb_n_i 10, zb_i_sub, zb_in_n (by omega)]
      rw [ex, d1]
      by_cases e2 : x6.toInt - 10 < zb_cm (fun r => zb_fee N A B M O K LO LD LE (R r) (R r 5) x3.toInt.toNat x4.toInt x5.toInt) (fun r => (R r 3).toNat) (fun r => (R r 4).toNat) Q x2.toInt.toNat x1.toInt.toNat
      · rw [if_pos e2]
        refine zb_Wneg (by rw [zb_n_le (by omega) (by omega)]; omega) ?_
        refine zb_Wpos (by rw [zb_ib_n (by omega)]; omega) (zb_Wsome ⟨?_, r1, kv⟩)
        dsimp only
        rw [zb_n_ix (by omega), d3 _ (by omega)]; exact zb_n_i _
      · rw [if_neg e2]
        exact zb_Wpos (by rw [zb_n_le (by omega) (by omega)]; omega) (zb_Wsome ⟨zb_m1, r1, kv⟩)
    · rw [if_neg w]
      exact zb_Wpos (zb_bF w) (zb_Wsome ⟨zb_m3, r1, kv⟩)
end CHP
