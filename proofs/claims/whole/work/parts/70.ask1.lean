/-! calls that ask: miles, way, holds, charge, most -/
theorem zb_bz {p : Prop} [Decidable p] : (zb_b (decide p) = (0 : Int32)) = ¬ p := by
  by_cases h : p
  · rw [decide_eq_true h]; simp only [h, not_true]; exact eq_false (by decide)
  · rw [decide_eq_false h]; simp only [h, not_false_iff]; exact eq_true rfl
theorem zb_h_inL {x lo hi : Int32} {s : sv_S} : F_Mo_in x lo hi s = some (zb_b (decide (lo.toInt ≤ x.toInt ∧ x.toInt ≤ hi.toInt))) := zb_h_in rfl rfl
theorem zb_m1t : (-1 : Int32).toInt = -1 := by decide
theorem zb_m3t : (-3 : Int32).toInt = -3 := by decide
theorem zb_ai {x : Int32} {a b : Int} (h : a ≤ x.toInt ∧ x.toInt ≤ b) : ∃ o : Int, a ≤ o ∧ o ≤ b ∧ x = zb_i o := ⟨x.toInt, h.1, h.2, zb_i_of x⟩
theorem zb_an2 {x : Int32} {b : Int} (h : 0 ≤ x.toInt ∧ x.toInt ≤ b) : ∃ a : Nat, (a : Int) ≤ b ∧ x = zb_n a := ⟨x.toInt.toNat, by omega, zb_an h.1⟩
section ASK1
variable {N K td Q T W Z : Nat} {A B O ZK : Nat → Nat} {M LO LD : Nat → Int} {LE : Nat → List zb_EF} {R TK WK : Nat → Nat → Int} {s : sv_S}
variable {x1 x2 x3 x4 x5 x6 x7 : Int32}
theorem zb_milesBy (h : zb_MM N A B M O K LO LD LE td Q R T TK W WK Z ZK s) {o : Int} {a b : Nat} (ho : -1 ≤ o) (ho5 : o ≤ 5) (ha : a < 16) (hb : b < 16) : zb_W (F_Mo_milesBy (zb_i o) (zb_n a) (zb_n b) s) (fun r => zb_fr [192, 193] s r.2 ∧ r.1 = zb_i (if zb_D N A B M O o a b < 100000 then zb_D N A B M O o a b else -3)) := by
  have hL := zb_RM_RL h.1
  have D := zb_D_rg hL o (a := a) (b := b) ha hb
  unfold F_Mo_milesBy
  refine zb_Wbind2 (zb_findFar (o := o) ho (by omega) h.1) (fun t ht => ?_)
  obtain ⟨f1, f2, f3⟩ := ht
  have e := f3 a b ha hb
  have ix : (16 : Int32) * zb_n a + zb_n b = zb_n (16 * a + b) := by rw [show (16 : Int32) = zb_n 16 from rfl, zb_n_mul, zb_n_add]
  have e' : t.1 192 (16 * a + b) = zb_i (zb_D N A B M O o a b) := e
  rw [ix]
  refine zb_Wpos (by first | omega | (simp (disch := omega) only [zb_lit, zb_n_add, zb_n_mul, zb_n_ix, zb_n_lt, zb_n_le, zb_n_eq, zb_ib_n] <;> omega)) ?_
  rw [zb_n_ix (by omega), e', zb_m3]
  have z : ((100000 : Int32) ≤ zb_i (zb_D N A B M O o a b)) = (100000 ≤ zb_D N A B M O o a b) := by rw [show (100000 : Int32) = zb_i 100000 from zb_n_i 100000]; exact zb_i_le (by omega) (by omega) (by omega) (by omega)
  simp only [z]
  by_cases q : zb_D N A B M O o a b < 100000
  · rw [if_pos q]
    refine zb_Wneg (by omega) ?_
    refine zb_Wpos (by first | omega | (simp (disch := omega) only [zb_lit, zb_n_add, zb_n_mul, zb_n_ix, zb_n_lt, zb_n_le, zb_n_eq, zb_ib_n] <;> omega)) ?_
    exact zb_Wsome ⟨f1, rfl⟩
  · rw [if_neg q]
    exact zb_Wpos (by omega) (zb_Wsome ⟨f1, rfl⟩)
theorem zb_c_miles (h : zb_J s) : zb_m01 (F_X_miles x1 x2 x3 s) (F_Mo_miles x1 x2 x3) s := by
  obtain ⟨N, A, B, M, O, K, LO, LD, LE, td, Q, R, T, TK, W, WK, Z, ZK, h⟩ := h
  have hj := zb_J_of h
  have kr := zb_keep_refl s
  unfold zb_m01
  simp only [F_X_miles, F_Mo_miles, zb_g_owner, zb_g_station, zb_g_good, zb_g_tape, zb_g_day, zb_g_tons, zb_g_stations, zb_g_no1, zb_h_owner, zb_h_station, zb_h_good, zb_h_day, zb_h_tons, zb_h_tape, zb_h_inL, Option.bind_some, zb_bz, Int32.reduceToInt, zb_m1t, zb_m3t]
  by_cases q1 : -1 ≤ x1.toInt ∧ x1.toInt ≤ 5
  rotate_left
  · simp only [q1, and_false, false_and, and_true, true_and, and_self, not_true, not_false_iff, if_false, if_true]; exact (zb_Wsome (zb_Wsome ⟨rfl, hj, kr⟩))
  by_cases q2 : 0 ≤ x2.toInt ∧ x2.toInt ≤ 15
  rotate_left
  · simp only [q1, q2, and_false, false_and, and_true, true_and, and_self, not_true, not_false_iff, if_false, if_true]; exact (zb_Wsome (zb_Wsome ⟨rfl, hj, kr⟩))
  by_cases q3 : 0 ≤ x3.toInt ∧ x3.toInt ≤ 15
  rotate_left
  · simp only [q1, q2, q3, and_false, false_and, and_true, true_and, and_self, not_true, not_false_iff, if_false, if_true]; exact (zb_Wsome (zb_Wsome ⟨rfl, hj, kr⟩))
  simp only [q1, q2, q3, and_false, false_and, and_true, true_and, and_self, not_true, not_false_iff, if_false, if_true]
  have hL := zb_RM_RL h.2.1.1
  obtain ⟨o, o1, o2, rfl⟩ := zb_ai q1
  obtain ⟨a, ha, rfl⟩ := zb_an2 q2
  obtain ⟨b, hb, rfl⟩ := zb_an2 q3
  rw [zb_between hL h.2.2.1.1 o1 (by omega) (by omega) (by omega)]
  refine zb_Wbind (zb_Wsome ?_)
  have D := zb_D_rg hL o (a := a) (b := b) (by omega) (by omega)
  unfold zb_bt
  by_cases w : zb_D N A B M O o a b < 100000
  · rw [if_pos w]
    refine zb_Wpos (zb_ge0 D.1 (by omega)) (zb_Wsome ?_)
    refine zb_Wbind2 (zb_milesBy h.2.1 o1 o2 (by omega) (by omega)) (fun r hr => zb_Wsome ⟨?_, zb_J_of (zb_J_M h hr.1 (by decide) (by decide)), zb_keep_fr hr.1 rfl⟩)
    rw [hr.2, if_pos w]
  · rw [if_neg w]
    refine zb_Wneg (by decide) (zb_Wsome ?_)
    refine zb_Wbind2 (zb_milesBy h.2.1 o1 o2 (by omega) (by omega)) (fun r hr => zb_Wsome ⟨?_, zb_J_of (zb_J_M h hr.1 (by decide) (by decide)), zb_keep_fr hr.1 rfl⟩)
    rw [hr.2, if_neg w]; exact zb_m3.symm
theorem zb_c_way (h : zb_J s) : zb_m01 (F_X_way x1 x2 x3 s) (F_Mo_way x1 x2 x3) s := by
  obtain ⟨N, A, B, M, O, K, LO, LD, LE, td, Q, R, T, TK, W, WK, Z, ZK, h⟩ := h
  have hj := zb_J_of h
  have kr := zb_keep_refl s
  unfold zb_m01
  simp only [F_X_way, F_Mo_way, zb_g_owner, zb_g_station, zb_g_good, zb_g_tape, zb_g_day, zb_g_tons, zb_g_stations, zb_g_no1, zb_h_owner, zb_h_station, zb_h_good, zb_h_day, zb_h_tons, zb_h_tape, zb_h_inL, Option.bind_some, zb_bz, Int32.reduceToInt, zb_m1t, zb_m3t]
  by_cases q1 : 0 ≤ x1.toInt ∧ x1.toInt ≤ 15
  rotate_left
  · simp only [q1, and_false, false_and, and_true, true_and, and_self, not_true, not_false_iff, if_false, if_true]; exact (zb_Wsome (zb_Wsome ⟨rfl, hj, kr⟩))
  by_cases q2 : 0 ≤ x2.toInt ∧ x2.toInt ≤ 15
  rotate_left
  · simp only [q1, q2, and_false, false_and, and_true, true_and, and_self, not_true, not_false_iff, if_false, if_true]; exact (zb_Wsome (zb_Wsome ⟨rfl, hj, kr⟩))
  simp only [q1, q2, and_false, false_and, and_true, true_and, and_self, not_true, not_false_iff, if_false, if_true]
  have hL := zb_RM_RL h.2.1.1
  obtain ⟨a, ha, rfl⟩ := zb_an2 q1
  obtain ⟨b, hb, rfl⟩ := zb_an2 q2
  have fw := zb_findWay h.2.1.1 (a := a) (b := b) (by omega) (by omega)
  have zero : ∀ i : Int32, ((0 : Int32) ≤ i) = (0 ≤ i.toInt) := fun i => by rw [show (0 : Int32) = zb_n 0 from rfl, zb_n_lec (by omega)]; rfl
  simp only [zero]
  by_cases q3 : 0 ≤ x3.toInt
  · rw [if_pos q3]
    have hx : x3.toInt.toNat ≤ 2147483647 := by have := Int32.toInt_lt x3; omega
    rw [zb_an q3]
    refine zb_Wbind2 (zb_lineOnWay hL h.2.2.1.1 (by omega) (by omega) hx) (fun r hr => ?_)
    subst hr
    have lr : -1 ≤ zb_lw0 N A B M O a b x3.toInt.toNat ∧ zb_lw0 N A B M O a b x3.toInt.toNat < 40 := by
      unfold zb_lw0 zb_lw
      split
      · have := zb_bs_rg hL.2.1 (zb_wp (zb_di0 N A B M O (-1)) (zb_D N A B M O (-1)) b a x3.toInt.toNat) (zb_wp (zb_di0 N A B M O (-1)) (zb_D N A B M O (-1)) b a (x3.toInt.toNat + 1)) (k := N) (Nat.le_refl _)
        have := hL.1; omega
      · omega
    have R1 : (if 0 ≤ (zb_i (zb_lw0 N A B M O a b x3.toInt.toNat)).toInt then some (zb_i (zb_lw0 N A B M O a b x3.toInt.toNat)) else some (-1 : Int32)) = some (zb_i (zb_lw0 N A B M O a b x3.toInt.toNat)) := by
      rw [zb_ti (by omega) (by omega)]
      split
      · rfl
      · next z => rw [zb_m1]; congr 2; omega
    rw [R1]
    refine zb_Wsome ?_
    refine zb_Wbind2 fw (fun t ht => ?_)
    obtain ⟨t1, t2, t3⟩ := ht
    have J2 := zb_J_of (zb_J_M h t1 (by decide) (by decide))
    have K2 : zb_keep s t.2 := zb_keep_fr t1 rfl
    by_cases w : zb_D N A B M O (-1) a b < 100000
    · rw [if_pos w] at t2
      obtain ⟨t4, t5⟩ := t3 w
      have m15 := (zb_wm_ok (O := O) hL.2.1 (x := a) (b := b) (by omega) (by omega) w).1
      refine zb_Wneg (by rw [t2]; decide) ?_
      rw [t4]
      have hi2 : (zb_n (zb_wm (zb_di0 N A B M O (-1)) (zb_D N A B M O (-1)) b a) - (1 : Int32)).toInt = (zb_wm (zb_di0 N A B M O (-1)) (zb_D N A B M O (-1)) b a : Int) - 1 := by
        rw [show (1 : Int32) = zb_i 1 from zb_n_i 1, zb_n_i, zb_i_sub, zb_ti (by omega) (by omega)]
      simp only [hi2]
      rw [zb_tn hx]
      by_cases w2 : x3.toInt.toNat < zb_wm (zb_di0 N A B M O (-1)) (zb_D N A B M O (-1)) b a
      · refine zb_Wneg (by omega) ?_
        refine zb_Wpos (by first | omega | (simp (disch := omega) only [zb_lit, zb_n_add, zb_n_mul, zb_n_ix, zb_n_lt, zb_n_le, zb_n_eq, zb_ib_n] <;> omega)) ?_
        rw [zb_n_ix (by omega), t5 _ w2]
        refine zb_Wsome ⟨?_, J2, K2⟩
        unfold zb_lw0; rw [if_pos ⟨w, w2⟩]
      · refine zb_Wpos (by omega) (zb_Wsome ⟨?_, J2, K2⟩)
        unfold zb_lw0; rw [if_neg (fun z => w2 z.2)]; exact zb_m1
    · rw [if_neg w] at t2
      refine zb_Wpos (by rw [t2]) (zb_Wsome ⟨?_, J2, K2⟩)
      unfold zb_lw0; rw [if_neg (fun z => w z.1)]; exact zb_m1
  · rw [if_neg q3]
    refine zb_Wsome ?_
    refine zb_Wbind2 fw (fun t ht => ?_)
    obtain ⟨t1, t2, t3⟩ := ht
    have J2 := zb_J_of (zb_J_M h t1 (by decide) (by decide))
    have K2 : zb_keep s t.2 := zb_keep_fr t1 rfl
    refine zb_Wif (fun _ => zb_Wsome ⟨rfl, J2, K2⟩) (fun _ => ?_)
    refine zb_Wpos (fun z => q3 z.1) (zb_Wsome ⟨rfl, J2, K2⟩)
theorem zb_c_holds (h : zb_J s) : zb_m11 (F_X_holds x1 x2 x3 s) (F_Mo_holds x1 x2 x3) s := by
  obtain ⟨N, A, B, M, O, K, LO, LD, LE, td, Q, R, T, TK, W, WK, Z, ZK, h⟩ := h
  have hj := zb_J_of h
  have kr := zb_keep_refl s
  unfold zb_m11
  simp only [F_X_holds, F_Mo_holds, zb_g_owner, zb_g_station, zb_g_good, zb_g_tape, zb_g_day, zb_g_tons, zb_g_stations, zb_g_no1, zb_h_owner, zb_h_station, zb_h_good, zb_h_day, zb_h_tons, zb_h_tape, zb_h_inL, Option.bind_some, zb_bz, Int32.reduceToInt, zb_m1t, zb_m3t]
  by_cases q1 : -1 ≤ x1.toInt ∧ x1.toInt ≤ 5
  rotate_left
  · simp only [q1, and_false, false_and, and_true, true_and, and_self, not_true, not_false_iff, if_false, if_true]; exact (zb_Wsome ⟨kr, zb_Wsome ⟨rfl, hj, kr⟩⟩)
  by_cases q2 : 0 ≤ x2.toInt ∧ x2.toInt ≤ 9999
  rotate_left
  · simp only [q1, q2, and_false, false_and, and_true, true_and, and_self, not_true, not_false_iff, if_false, if_true]; exact (zb_Wsome ⟨kr, zb_Wsome ⟨rfl, hj, kr⟩⟩)
  simp only [q1, q2, and_false, false_and, and_true, true_and, and_self, not_true, not_false_iff, if_false, if_true]
  have hQ := h.1.2.1
  obtain ⟨o, o1, o2, rfl⟩ := zb_ai q1
  obtain ⟨d, d1, d2, rfl⟩ := zb_ai q2
  -- what the model looks up
  have lk : ∀ u, zb_J1 N A B M O K LO LD LE td Q R T TK W WK Z ZK u → zb_keep s u → zb_W (F_Mo_look (zb_i o) (zb_i d) u) (fun r => zb_J1 N A B M O K LO LD LE td Q R T TK W WK Z ZK r ∧ zb_keep s r ∧ ∃ sm ex, zb_MV (zb_v K LO LD LE o d) sm ex r) := by
    intro u hu ku
    refine zb_Wmono (zb_look hu.2.1.2.1 o1 o2 d1 d2) (fun r hr => ⟨zb_J_M hu hr.1 (by decide) (by decide), zb_keep_trans ku (zb_keep_fr hr.1 rfl), ?_⟩)
    obtain ⟨sm, ex, e1, _⟩ := hr.2
    exact ⟨sm, ex, e1⟩
  have z1 : (x3 < (0 : Int32)) = (x3.toInt < 0) := by rw [show (0 : Int32) = zb_n 0 from rfl]; exact zb_c_ltn (by omega)
  have z2 : (x3 < (40 : Int32)) = (x3.toInt < 40) := by rw [show (40 : Int32) = zb_n 40 from rfl]; exact zb_c_ltn (by omega)
  have z3 : (x3 = (0 : Int32)) = (x3.toInt = 0) := by rw [show (0 : Int32) = zb_n 0 from rfl]; exact zb_c_eqn (by omega)
  have z4 : (x3 ≤ (6 : Int32)) = (x3.toInt ≤ 6) := by rw [show (6 : Int32) = zb_n 6 from rfl]; exact zb_c_len (by omega)
  have z5 : ((10 : Int32) ≤ x3) = (10 ≤ x3.toInt) := by rw [show (10 : Int32) = zb_n 10 from rfl]; exact zb_n_lec (by omega)
  have z6 : (x3 = (6 : Int32)) = (x3.toInt = 6) := by rw [show (6 : Int32) = zb_n 6 from rfl]; exact zb_c_eqn (by omega)
  simp only [z1, z2, z3, z4, z5, z6]
  -- answers that aren't there
  have no : (x3.toInt < 0 ∨ 40 ≤ x3.toInt ∨ (6 < x3.toInt ∧ x3.toInt < 10)) → ∀ u, zb_J1 N A B M O K LO LD LE td Q R T TK W WK Z ZK u → zb_keep s u → zb_W ((F_Mo_look (zb_i o) (zb_i d) u).bind fun r3 => if x3.toInt = 0 then (F_Mo_lawOn (zb_i o) (zb_i d) r3).bind fun r7 => some (r7, r3) else if ¬(1 ≤ x3.toInt ∧ x3.toInt ≤ 5) then if x3.toInt = 6 then if r3.1 187 19 = 0 then some ((0 : Int32), r3) else some ((1 : Int32), r3) else if ¬(10 ≤ x3.toInt ∧ x3.toInt ≤ 19) then if ¬(20 ≤ x3.toInt ∧ x3.toInt ≤ 39) then some ((-5 : Int32), r3) else if sv_ib (x3 - (20 : Int32)) 20 = true then some (r3.1 199 (x3 - (20 : Int32)).toNatClampNeg, r3) else none else if sv_ib (x3 - (10 : Int32)) 10 = true then some (r3.1 200 (x3 - (10 : Int32)).toNatClampNeg, r3) else none else if sv_ib (x3 - (1 : Int32)) 5 = true then some (r3.1 201 (x3 - (1 : Int32)).toNatClampNeg, r3) else none) (fun q => q.1 = (-5 : Int32) ∧ zb_J q.2 ∧ zb_keep s q.2) := by
    intro hx u hu ku
    refine zb_Wbind2 (lk u hu ku) (fun r hr => ?_)
    refine zb_Wneg (by omega) (zb_Wpos (by omega) (zb_Wneg (by omega) (zb_Wpos (by omega) (zb_Wpos (by omega) (zb_Wsome ⟨rfl, zb_J_of hr.1, hr.2.1⟩)))))
  by_cases w1 : x3.toInt < 0
  · rw [if_pos w1]; exact zb_Wsome ⟨kr, no (Or.inl w1) s h kr⟩
  rw [if_neg w1]
  by_cases w2 : x3.toInt < 40
  rotate_left
  · rw [if_neg w2]; exact zb_Wsome ⟨kr, no (Or.inr (Or.inl (by omega))) s h kr⟩
  rw [if_pos w2]
  by_cases w3 : x3.toInt = 0
  · rw [if_pos w3]
    refine zb_Wbind2 (zb_inForce h.2.2.1.2.1 o1 o2 d1 d2) (fun r hr => ?_)
    obtain ⟨r1, r2, r3⟩ := hr
    have g := zb_lo_rg (LO := LO) (LD := LD) (o := o) (d := d) K
    have X2 := zb_J_X h (zb_MX_rest hQ h.2.2.1 r3 r2 (by decide) (by decide)) r3 (by decide)
    have k2 : zb_keep s r.2 := zb_keep_fx r3 rfl
    rw [r1]
    refine zb_Wpos (zb_ce_ok r2.1.2.2.1 g.2) (zb_Wsome ⟨k2, ?_⟩)
    refine zb_Wbind2 (lk r.2 X2 k2) (fun q hq => ?_)
    refine zb_Wpos w3 ?_
    refine zb_Wbind2 (zb_lawOn hq.1.2.1.2.1 o1 o2 d1 d2) (fun v hv => zb_Wsome ⟨?_, zb_J_of hq.1, hq.2.1⟩)
    rw [hv]
    show _ = r.2.1 (zb_ce (zb_lo LO LD o d K)) 0
    unfold zb_ce
    by_cases e : zb_lo LO LD o d K < 0
    · rw [if_pos e, r2.1.2.2.2.1.1, show zb_lo LO LD o d K = -1 by omega]
    · rw [if_neg e, (r2.1.2.2.2.2 (zb_lo LO LD o d K).toNat (by omega)).2.2.2.1, zb_in_n (by omega)]
  rw [if_neg w3]
  have main : ∀ w : Nat, x3 = zb_n w → w < 40 → ((1 ≤ w ∧ w ≤ 6) ∨ 10 ≤ w) → zb_W ((F_Ls_value (zb_i o) (zb_i d) x3 s).bind fun r3 => some (r3.1, r3.2)) (fun r => zb_keep s r.2 ∧ zb_W ((F_Mo_look (zb_i o) (zb_i d) r.2).bind fun r3 => if x3.toInt = 0 then (F_Mo_lawOn (zb_i o) (zb_i d) r3).bind fun r7 => some (r7, r3) else if ¬(1 ≤ x3.toInt ∧ x3.toInt ≤ 5) then if x3.toInt = 6 then if r3.1 187 19 = 0 then some ((0 : Int32), r3) else some ((1 : Int32), r3) else if ¬(10 ≤ x3.toInt ∧ x3.toInt ≤ 19) then if ¬(20 ≤ x3.toInt ∧ x3.toInt ≤ 39) then some ((-5 : Int32), r3) else if sv_ib (x3 - (20 : Int32)) 20 = true then some (r3.1 199 (x3 - (20 : Int32)).toNatClampNeg, r3) else none else if sv_ib (x3 - (10 : Int32)) 10 = true then some (r3.1 200 (x3 - (10 : Int32)).toNatClampNeg, r3) else none else if sv_ib (x3 - (1 : Int32)) 5 = true then some (r3.1 201 (x3 - (1 : Int32)).toNatClampNeg, r3) else none) (fun q => q.1 = r.1 ∧ zb_J q.2 ∧ zb_keep s q.2)) := by
    intro w hw w40 hr
    subst hw
    refine zb_Wbind2 (zb_value_X hQ h.2.2.1 o1 o2 d1 d2 w40) (fun r hr' => ?_)
    obtain ⟨r1, r2, r3⟩ := hr'
    have X2 := zb_J_X h r2 r3 (by decide)
    have k2 : zb_keep s r.2 := zb_keep_fx r3 rfl
    refine zb_Wsome ⟨k2, ?_⟩
    dsimp only
    refine zb_Wbind2 (lk r.2 X2 k2) (fun q hq => ?_)
    obtain ⟨q1', q2', sm, ex, q3'⟩ := hq
    have J2 := zb_J_of q1'
    rw [r1]
    simp only [zb_tn (show w ≤ 2147483647 by omega)]
    refine zb_Wneg (by omega) ?_
    by_cases c1 : 1 ≤ w ∧ w ≤ 5
    · refine zb_Wneg (by omega) ?_
      have e : zb_n w - (1 : Int32) = zb_n (w - 1) := by rw [show (1 : Int32) = zb_n 1 from rfl, zb_n_sub (by omega)]
      rw [e]
      refine zb_Wpos (by first | omega | (simp (disch := omega) only [zb_lit, zb_n_add, zb_n_mul, zb_n_ix, zb_n_lt, zb_n_le, zb_n_eq, zb_ib_n] <;> omega)) ?_
      refine zb_Wsome ⟨?_, J2, q2'⟩
      dsimp only
      rw [zb_n_ix (by omega), q3'.1 (w - 1) (by omega), show w - 1 + 1 = w by omega]
    · refine zb_Wpos (by omega) ?_
      by_cases c2 : w = 6
      · subst c2
        refine zb_Wpos (by omega) ?_
        have vr := (zb_v_rg q1'.2.1.2.1 o d 6)
        have v1 := vr.2.2.1 rfl
        rw [q3'.2.1]
        have : zb_v K LO LD LE o d 6 = 0 ∨ zb_v K LO LD LE o d 6 = 1 := by omega
        rcases this with e | e
        · rw [e]; exact zb_Wpos (by decide) (zb_Wsome ⟨by rfl, J2, q2'⟩)
        · rw [e]; exact zb_Wneg (by decide) (zb_Wsome ⟨by rfl, J2, q2'⟩)
      · refine zb_Wneg (by omega) ?_
        by_cases c3 : w ≤ 19
        · refine zb_Wneg (by omega) ?_
          have e : zb_n w - (10 : Int32) = zb_n (w - 10) := by rw [show (10 : Int32) = zb_n 10 from rfl, zb_n_sub (by omega)]
          rw [e]
          refine zb_Wpos (by first | omega | (simp (disch := omega) only [zb_lit, zb_n_add, zb_n_mul, zb_n_ix, zb_n_lt, zb_n_le, zb_n_eq, zb_ib_n] <;> omega)) ?_
          refine zb_Wsome ⟨?_, J2, q2'⟩
          dsimp only
          rw [zb_n_ix (by omega), q3'.2.2.1 (w - 10) (by omega), show 10 + (w - 10) = w by omega]
        · refine zb_Wpos (by omega) (zb_Wneg (by omega) ?_)
          have e : zb_n w - (20 : Int32) = zb_n (w - 20) := by rw [show (20 : Int32) = zb_n 20 from rfl, zb_n_sub (by omega)]
          rw [e]
          refine zb_Wpos (by first | omega | (simp (disch := omega) only [zb_lit, zb_n_add, zb_n_mul, zb_n_ix, zb_n_lt, zb_n_le, zb_n_eq, zb_ib_n] <;> omega)) ?_
          refine zb_Wsome ⟨?_, J2, q2'⟩
          dsimp only
          rw [zb_n_ix (by omega), q3'.2.2.2.1 (w - 20) (by omega), show 20 + (w - 20) = w by omega]
  by_cases w4 : x3.toInt ≤ 6
  · rw [if_pos w4]; exact main x3.toInt.toNat (zb_an (by omega)) (by omega) (by omega)
  · rw [if_neg w4]
    by_cases w5 : 10 ≤ x3.toInt
    · rw [if_pos w5]; exact main x3.toInt.toNat (zb_an (by omega)) (by omega) (by omega)
    · rw [if_neg w5]; exact zb_Wsome ⟨kr, no (by omega) s h kr⟩
end ASK1
