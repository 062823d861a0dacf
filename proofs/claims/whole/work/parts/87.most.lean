/-! most -/
theorem zb_sg1 {x : Int} (h1 : -2147483648 ≤ x) (h2 : x ≤ 2147483647) : (zb_i x < (0 : Int32)) = (x < 0) := by rw [show (0 : Int32) = zb_i 0 from zb_n_i 0]; exact zb_i_lt h1 h2 (by omega) (by omega)
theorem zb_sg2 {x : Int} (h1 : -2147483648 ≤ x) (h2 : x ≤ 2147483647) : ((0 : Int32) ≤ zb_i x) = (0 ≤ x) := by rw [show (0 : Int32) = zb_i 0 from zb_n_i 0]; exact zb_i_le (by omega) (by omega) h1 h2
section MST
variable {N K td Q T W Z : Nat} {A B O ZK : Nat → Nat} {M LO LD : Nat → Int} {LE : Nat → List zb_EF} {R TK WK : Nat → Nat → Int} {s : sv_S}
variable {x1 x2 x3 x4 x5 x6 x7 : Int32} {f : Nat → Int} {r0 k0 : Nat} {v : Int}
def zb_ZLR : List Nat := [192, 193] ++ zb_ZL
theorem zb_mostOf (hW : zb_MW N A B M O K LO LD LE td Q R T TK W WK Z ZK) (h : zb_MM N A B M O K LO LD LE td Q R T TK W WK Z ZK s) {r : Nat} (hr : r < Q) {d : Int} (hd : 0 ≤ d) (hd9 : d ≤ 9999) : zb_W (F_Mo_mostOf (zb_n r) (zb_i d) s) (fun q => q.1 = zb_i (if zb_cg N A B M O K LO LD LE (R r) d < 0 then -3 else zb_cg N A B M O K LO LD LE (R r) d) ∧ zb_MM N A B M O K LO LD LE td Q R T TK W WK Z ZK q.2 ∧ zb_fr zb_ZLR s q.2) := by
  have hQ := hW.2.1
  have hL := zb_RM_RL h.1
  have rk := hW.2.2.1 r hr
  obtain ⟨h1, h2, h3, h4, _, _, h6, _⟩ := id rk
  have ir : sv_ib (zb_n r) 60 = true := by rw [zb_ib_n (by omega)]; omega
  have D := zb_D_rg hL (-1) (a := (R r 3).toNat) (b := (R r 4).toNat) (by omega) (by omega)
  have cr := zb_co_rg h.2.1 rk d
  unfold F_Mo_mostOf
  simp only [ir, if_true, zb_n_ix (show r ≤ 2147483647 by omega)]
  rw [zb_fldM h.2.2.2.1 hr (f := 3) (c := 207) (by omega) (by omega) rfl, zb_fldM h.2.2.2.1 hr (f := 4) (c := 208) (by omega) (by omega) rfl, zb_m1, zb_in_n h3.1, zb_in_n h4.1]
  refine zb_Wbind2 (zb_milesBy h (by omega) (by omega) (by omega) (by omega)) (fun q hq => ?_)
  obtain ⟨q1, q2⟩ := hq
  have M1 := zb_MM_fr h q1 (by decide)
  rw [q2]
  unfold zb_cg
  by_cases w : zb_D N A B M O (-1) (R r 3).toNat (R r 4).toNat < 100000
  · simp only [w, if_true]
    refine zb_Wpos (zb_ge0 D.1 (by omega)) ?_
    rw [zb_fldM M1.2.2.2.1 hr (f := 2) (c := 206) (by omega) (by omega) rfl]
    refine zb_Wbind2 (zb_look M1.2.1 (o := R r 2) (by omega) h2.2 hd hd9) (fun p hp => ?_)
    obtain ⟨p1, sm, ex, mv, _⟩ := hp
    have M2 := zb_MM_fr M1 p1 (by decide)
    have fin : ∀ c : Nat, (c : Int) = zb_co K LO LD LE (R r) d → zb_W (if sv_ib (zb_n c) 10 = true then some (zb_i (zb_D N A B M O (-1) (R r 3).toNat (R r 4).toNat) * p.1 200 (zb_n c).toNatClampNeg / (10 : Int32), p) else none) (fun q => q.1 = zb_i (if zb_D N A B M O (-1) (R r 3).toNat (R r 4).toNat * zb_v K LO LD LE (R r 2) d (10 + (zb_co K LO LD LE (R r) d).toNat) / 10 < 0 then -3 else zb_D N A B M O (-1) (R r 3).toNat (R r 4).toNat * zb_v K LO LD LE (R r 2) d (10 + (zb_co K LO LD LE (R r) d).toNat) / 10) ∧ zb_MM N A B M O K LO LD LE td Q R T TK W WK Z ZK q.2 ∧ zb_fr zb_ZLR s q.2) := by
      intro c hc
      rw [← hc]
      refine zb_Wpos (by rw [zb_ib_n (by omega)]; omega) (zb_Wsome ⟨?_, M2, zb_fr_trans (zb_fr_mono q1 (by decide)) (zb_fr_mono p1 (by decide))⟩)
      have vr := zb_v_rg h.2.1 (R r 2) d (10 + c)
      have m := zb_mulr (x := 3000) (y := 9999) D.1 (D.2.2 w) vr.1 vr.2.1
      dsimp only
      rw [zb_n_ix (by omega), mv.2.2.1 c (by omega), show (10 : Int32) = zb_i 10 from zb_n_i 10, zb_i_mul, zb_i_div (by omega) (by omega) (by omega) (by omega), Int.tdiv_eq_ediv_of_nonneg m.1]
      rw [show ((c : Int)).toNat = c from Int.toNat_natCast c, if_neg (by omega)]
    rw [zb_fldM M2.2.2.2.1 hr (f := 1) (c := 205) (by omega) (by omega) rfl, zb_fldM M2.2.2.2.1 hr (f := 6) (c := 210) (by omega) (by omega) rfl, show (2 : Int32) = zb_i 2 from zb_n_i 2]
    simp only [zb_i_eq (show -2147483648 ≤ R r 1 by omega) (show R r 1 ≤ 2147483647 by omega) (show -2147483648 ≤ (2 : Int) by omega) (show (2 : Int) ≤ 2147483647 by omega)]
    by_cases e2 : R r 1 = 2
    · have ec : zb_co K LO LD LE (R r) d = zb_v K LO LD LE (R r 2) d (20 + (R r 6).toNat) := by unfold zb_co; rw [if_pos e2]
      refine zb_Wpos e2 (zb_Wpos (by rw [zb_ib_i (by omega) (by omega)]; omega) ?_)
      rw [zb_i_ix (by omega) (by omega), mv.2.2.2.1 _ (by omega), ← ec, zb_in_n cr.1]
      exact fin _ (by omega)
    · have ec : zb_co K LO LD LE (R r) d = R r 6 := by unfold zb_co; rw [if_neg e2]
      refine zb_Wneg e2 ?_
      rw [← ec, zb_in_n cr.1]
      exact fin _ (by omega)
  · simp only [w, if_false]
    refine zb_Wneg (by decide) (zb_Wsome ⟨?_, M1, zb_fr_mono q1 (by decide)⟩)
    rw [if_pos (by omega)]; exact zb_m3
theorem zb_c_most (h : zb_J s) : zb_m11 (F_X_most x1 x2 x3 s) (F_Mo_most x1 x2 x3) s := by
  obtain ⟨N, A, B, M, O, K, LO, LD, LE, td, Q, R, T, TK, W, WK, Z, ZK, h⟩ := h
  have hj := zb_J_of h
  have h0 := h
  obtain ⟨hW, hM, hX, hO, hB⟩ := h
  have hQ := hW.2.1
  have hL := zb_RM_RL hM.1
  have z0 : (x3 < (0 : Int32)) = (x3.toInt < 0) := by rw [show (0 : Int32) = zb_n 0 from rfl]; exact zb_c_ltn (by omega)
  have z1 : (x3 ≤ (1 : Int32)) = (x3.toInt ≤ 1) := by rw [show (1 : Int32) = zb_n 1 from rfl]; exact zb_c_len (by omega)
  have z2 : (x3 = (1 : Int32)) = (x3.toInt = 1) := by rw [show (1 : Int32) = zb_n 1 from rfl]; exact zb_c_eqn (by omega)
  have z3 : (x3 = (0 : Int32)) = (x3.toInt = 0) := by rw [show (0 : Int32) = zb_n 0 from rfl]; exact zb_c_eqn (by omega)
  have xg : F_X_most x1 x2 x3 s = if ¬ (0 ≤ x1.toInt ∧ x1.toInt < Q) then some ((-1 : Int32), s) else if ¬ (0 ≤ x3.toInt ∧ x3.toInt ≤ 1) then some ((-1 : Int32), s) else if ¬ (0 ≤ x2.toInt ∧ x2.toInt ≤ 9999) then some ((-2 : Int32), s) else (F_Rs_row x1 s).bind fun r3 => if ss_ok2 s r3 5 = true then if x3.toInt = 1 then (F_Rs_over r3 x2 s).bind fun r6 => some (r6.1, r6.2) else (F_Rs_ceiling r3 x2 s).bind fun r5 => if 0 ≤ r5.1 then some (r5.1, r5.2) else some ((-3 : Int32), r5.2) else none := by
    simp only [F_X_most, zb_g_rate hX hQ, z0, z1, z2, zb_g_owner, zb_g_station, zb_g_good, zb_g_tape, zb_g_day, zb_g_tons, zb_g_stations, zb_g_no1, zb_h_owner, zb_h_station, zb_h_good, zb_h_day, zb_h_tons, zb_h_tape, zb_h_inL, Option.bind_some, zb_bz, Int32.reduceToInt, zb_m1t, zb_m3t]
    by_cases q1 : 0 ≤ x1.toInt ∧ x1.toInt < Q
    rotate_left
    · rw [if_pos q1, if_pos q1]
    rw [if_neg (not_not_intro q1), if_neg (not_not_intro q1)]
    by_cases q2 : 0 ≤ x3.toInt ∧ x3.toInt ≤ 1
    rotate_left
    · rw [if_pos q2]
      by_cases e : x3.toInt < 0
      · rw [if_pos e]
      · rw [if_neg e, if_neg (by omega)]
    rw [if_neg (not_not_intro q2), if_neg (show ¬ x3.toInt < 0 by omega), if_pos q2.2]
  have mg : ∀ u, zb_MM N A B M O K LO LD LE td Q R T TK W WK Z ZK u → F_Mo_most x1 x2 x3 u = if ¬ (0 ≤ x1.toInt ∧ x1.toInt < Q) then some ((-1 : Int32), u) else if ¬ (0 ≤ x3.toInt ∧ x3.toInt ≤ 1) then some ((-1 : Int32), u) else if ¬ (0 ≤ x2.toInt ∧ x2.toInt ≤ 9999) then some ((-2 : Int32), u) else
    (F_Mo_mostOf x1 x2 u).bind fun r4 =>
    if x3 = 0 then
      some (r4.1, r4.2)
    else
    if r4.1 < 0 then
      some ((0 : Int32), r4.2)
    else
    (F_Mo_nowKind x1 r4.2).bind fun r5 =>
    if r5 < (5 : Int32) then
      if sv_ib x1 60 = true then
        ss_let (r4.2.1 209 x1.toNatClampNeg) fun v6 =>
        if sv_ib x1 60 = true then
          if (r4.2.1 205 x1.toNatClampNeg) = (3 : Int32) then
            if sv_ib x1 60 = true then
              if sv_ib x1 60 = true then
                if sv_ib x1 60 = true then
                  (F_Mo_milesBy (r4.2.1 206 x1.toNatClampNeg) (r4.2.1 207 x1.toNatClampNeg) (r4.2.1 208 x1.toNatClampNeg) r4.2).bind fun r7 =>
                  if 0 ≤ r7.1 then
                    F_Mo_most_b121 r4.1 ((r7.1 * v6) / (10 : Int32)) r7.2
                  else
                  F_Mo_most_b121 r4.1 (0 : Int32) r7.2
                else none
              else none
            else none
          else
          F_Mo_most_b123 r4.1 v6 r4.2
        else none
      else none
    else
    some ((0 : Int32), r4.2) := by
    intro u hu
    simp only [F_Mo_most, zb_h_rate hu hQ, zb_g_owner, zb_g_station, zb_g_good, zb_g_tape, zb_g_day, zb_g_tons, zb_g_stations, zb_g_no1, zb_h_owner, zb_h_station, zb_h_good, zb_h_day, zb_h_tons, zb_h_tape, zb_h_inL, Option.bind_some, zb_bz, Int32.reduceToInt, zb_m1t, zb_m3t]
  have no : ∀ v : Int32, F_X_most x1 x2 x3 s = some (v, s) → (∀ u, zb_MM N A B M O K LO LD LE td Q R T TK W WK Z ZK u → F_Mo_most x1 x2 x3 u = some (v, u)) → zb_m11 (F_X_most x1 x2 x3 s) (F_Mo_most x1 x2 x3) s := fun v a b => zb_m11_no hj a (b s hM)
  by_cases q1 : 0 ≤ x1.toInt ∧ x1.toInt < Q
  rotate_left
  · exact no (-1 : Int32) (by rw [xg, if_pos q1]) (fun u hu => by rw [mg u hu, if_pos q1])
  by_cases q2 : 0 ≤ x3.toInt ∧ x3.toInt ≤ 1
  rotate_left
  · exact no (-1 : Int32) (by rw [xg, if_neg (not_not_intro q1), if_pos q2]) (fun u hu => by rw [mg u hu, if_neg (not_not_intro q1), if_pos q2])
  by_cases q3 : 0 ≤ x2.toInt ∧ x2.toInt ≤ 9999
  rotate_left
  · exact no (-2 : Int32) (by rw [xg, if_neg (not_not_intro q1), if_neg (not_not_intro q2), if_pos q3]) (fun u hu => by rw [mg u hu, if_neg (not_not_intro q1), if_neg (not_not_intro q2), if_pos q3])
  rw [if_neg (not_not_intro q1), if_neg (not_not_intro q2), if_neg (not_not_intro q3)] at xg
  simp only [if_neg (not_not_intro q1), if_neg (not_not_intro q2), if_neg (not_not_intro q3)] at mg
  obtain ⟨r, hr, rfl⟩ := zb_an3 q1
  have ir : sv_ib (zb_n r) 60 = true := by rw [zb_ib_n (by omega)]; omega
  have rk := hW.2.2.1 r hr
  obtain ⟨a1, a2, a3, a4, _, a5, _⟩ := id rk
  have kn := zb_kn_rg rk
  rw [zb_row (by omega), Option.bind_some, if_pos (zb_ok91 (by omega))] at xg
  obtain ⟨d, d1, d2, rfl⟩ := zb_ai q3
  have cr := zb_cg_rg hL hM.2.1 rk d
  have ce := zb_ceiling_X hW hL hM.2.1 hX hr d1 d2
  have mo := fun u hu => zb_mostOf (s := u) hW hu hr d1 d2
  generalize hc : zb_cg N A B M O K LO LD LE (R r) d = c at *
  by_cases e3 : x3.toInt = 0
  · have xe : ¬ x3.toInt = 1 := by omega
    rw [if_neg xe] at xg
    refine zb_m11_ch (v := zb_i (if c < 0 then -3 else c)) (LX := [81003]) (LM := zb_ZLR) h0 hW ?_ (fun u hu => ?_) (by decide) (by decide) (by decide)
    · rw [xg]
      refine zb_Wbind2 ce (fun q hq => ?_)
      rw [hq.1]
      simp only [zb_sg2 (show -2147483648 ≤ c by omega) (show c ≤ 2147483647 by omega)]
      refine zb_Wif (fun e => zb_Wsome ⟨by rw [if_neg (by omega)], hq.2⟩) (fun e => zb_Wsome ⟨by rw [if_pos (by omega)]; exact zb_m3, hq.2⟩)
    · rw [mg u hu]
      refine zb_Wbind2 (mo u hu) (fun q hq => zb_Wpos (by rw [z3]; exact e3) (zb_Wsome hq))
  · have xe : x3.toInt = 1 := by omega
    rw [if_pos xe] at xg
    have p := zb_pt_rg hL rk a5.1 a5.2.1
    have pX := fun u (hu : zb_MX N A B M O K LO LD LE td Q R T TK W WK Z ZK u) => zb_perTon (s := u) hL hu hr rk a5.1 a5.2.1
    refine zb_m11_ch (v := zb_i (if c < 0 then 0 else if 0 ≤ R r 8 then 0 else if R r 1 = 5 then 0 else if zb_pt N A B M O (R r) (R r 5) ≤ c then 0 else zb_pt N A B M O (R r) (R r 5) - c)) (LX := [81003]) (LM := zb_ZLR) h0 hW ?_ (fun u hu => ?_) (by decide) (by decide) (by decide)
    · rw [xg]
      unfold F_Rs_over
      refine zb_Wbind (zb_Wbind2 ce (fun q hq => ?_))
      obtain ⟨e1, e2, e4⟩ := hq
      rw [e1]
      simp only [zb_sg1 (show -2147483648 ≤ c by omega) (show c ≤ 2147483647 by omega)]
      refine zb_Wif (fun w => zb_Wsome (zb_Wsome ⟨by rw [if_pos w]; exact zb_n_i 0, e2, e4⟩)) (fun w => ?_)
      rw [if_neg w, (e2.2.2.2.2.1.2.1 r hr).2.2]
      by_cases w2 : 0 ≤ R r 8
      · rw [if_pos w2]; exact zb_Wneg (zb_bT w2) (zb_Wsome (zb_Wsome ⟨zb_n_i 0, e2, e4⟩))
      rw [if_neg w2]
      refine zb_Wpos (zb_bF w2) ?_
      rw [zb_fld e2 hr (f := 1) (by omega) (by omega), show (5 : Int32) = zb_i 5 from zb_n_i 5]
      simp only [zb_i_eq (show -2147483648 ≤ R r 1 by omega) (show R r 1 ≤ 2147483647 by omega) (show -2147483648 ≤ (5 : Int) by omega) (show (5 : Int) ≤ 2147483647 by omega)]
      by_cases w3 : R r 1 = 5
      · rw [if_pos w3, if_pos w3]; exact zb_Wsome (zb_Wsome ⟨zb_n_i 0, e2, e4⟩)
      rw [if_neg w3, if_neg w3, zb_fld e2 hr (f := 5) (by omega) (by omega), pX q.2 e2]
      refine zb_Wbind (zb_Wsome ?_)
      unfold F_JM_max
      rw [zb_i_sub]
      have zz : ((0 : Int32) < zb_i (zb_pt N A B M O (R r) (R r 5) - c)) = (0 < zb_pt N A B M O (R r) (R r 5) - c) := by rw [show (0 : Int32) = zb_i 0 from zb_n_i 0]; exact zb_i_lt (by omega) (by omega) (by omega) (by omega)
      simp only [zz]
      by_cases w4 : zb_pt N A B M O (R r) (R r 5) ≤ c
      · rw [if_pos w4, if_neg (by omega)]; exact zb_Wsome (zb_Wsome ⟨zb_n_i 0, e2, e4⟩)
      · rw [if_neg w4, if_pos (by omega)]; exact zb_Wsome (zb_Wsome ⟨rfl, e2, e4⟩)
    · rw [mg u hu]
      refine zb_Wbind2 (mo u hu) (fun q hq => ?_)
      obtain ⟨e1, e2, e4⟩ := hq
      refine zb_Wneg (by rw [z3]; omega) ?_
      rw [e1]
      by_cases w : c < 0
      · rw [if_pos w, if_pos w]
        exact zb_Wpos (by decide) (zb_Wsome ⟨zb_n_i 0, e2, e4⟩)
      rw [if_neg w, if_neg w]
      refine zb_Wneg (by rw [zb_sg1 (by omega) (by omega)]; exact w) ?_
      rw [zb_kind_M hW e2 hr]
      refine zb_Wbind (zb_Wsome ?_)
      have z5 : (zb_i (zb_kn (R r)) < (5 : Int32)) = (zb_kn (R r) < 5) := by rw [show (5 : Int32) = zb_i 5 from zb_n_i 5]; exact zb_i_lt (by omega) (by omega) (by omega) (by omega)
      simp only [z5]
      by_cases w2 : 0 ≤ R r 8
      · rw [if_pos w2]; exact zb_Wneg (by unfold zb_kn; rw [if_pos w2]; omega) (zb_Wsome ⟨zb_n_i 0, e2, e4⟩)
      rw [if_neg w2]
      by_cases w3 : R r 1 = 5
      · rw [if_pos w3]; exact zb_Wneg (by unfold zb_kn; rw [if_neg w2]; omega) (zb_Wsome ⟨zb_n_i 0, e2, e4⟩)
      rw [if_neg w3]
      refine zb_Wpos (by unfold zb_kn; rw [if_neg w2]; omega) ?_
      simp only [ir, if_true, zb_n_ix (show r ≤ 2147483647 by omega)]
      refine zb_Wlet ?_
      rw [zb_fldM e2.2.2.2.1 hr (f := 5) (c := 209) (by omega) (by omega) rfl, zb_fldM e2.2.2.2.1 hr (f := 1) (c := 205) (by omega) (by omega) rfl, zb_fldM e2.2.2.2.1 hr (f := 2) (c := 206) (by omega) (by omega) rfl, zb_fldM e2.2.2.2.1 hr (f := 3) (c := 207) (by omega) (by omega) rfl, zb_fldM e2.2.2.2.1 hr (f := 4) (c := 208) (by omega) (by omega) rfl, show (3 : Int32) = zb_i 3 from zb_n_i 3, zb_in_n a3.1, zb_in_n a4.1]
      simp only [zb_i_eq (show -2147483648 ≤ R r 1 by omega) (show R r 1 ≤ 2147483647 by omega) (show -2147483648 ≤ (3 : Int) by omega) (show (3 : Int) ≤ 2147483647 by omega)]
      -- the end of both
      have fin : ∀ (y : Int) (t : sv_S), (0 ≤ y ∧ y ≤ 3000000) → zb_MM N A B M O K LO LD LE td Q R T TK W WK Z ZK t → zb_fr zb_ZLR u t → (y = zb_pt N A B M O (R r) (R r 5) ∨ (y = 0 ∧ zb_pt N A B M O (R r) (R r 5) = -1)) → zb_W (F_Mo_most_b123 (zb_i c) (zb_i y) t) (zb_didM N A B M O K LO LD LE td Q R T TK W WK Z ZK zb_ZLR u (zb_i (if zb_pt N A B M O (R r) (R r 5) ≤ c then 0 else zb_pt N A B M O (R r) (R r 5) - c))) := by
        intro y t y1 t1 t2 ye
        unfold F_Mo_most_b123
        simp only [zb_i_le (show -2147483648 ≤ y by omega) (show y ≤ 2147483647 by omega) (show -2147483648 ≤ c by omega) (show c ≤ 2147483647 by omega)]
        refine zb_Wif (fun g => zb_Wsome ⟨?_, t1, t2⟩) (fun g => zb_Wsome ⟨?_, t1, t2⟩)
        · rw [if_pos (by omega)]; exact zb_n_i 0
        · dsimp only
          rw [if_neg (by omega), zb_i_sub]
          congr 1; omega
      by_cases w4 : R r 1 = 3
      · rw [if_pos w4]
        refine zb_Wbind2 (zb_milesBy e2 (o := R r 2) (by omega) a2.2 (by omega) (by omega)) (fun t ht => ?_)
        obtain ⟨t1, t2⟩ := ht
        have D := zb_D_rg hL (R r 2) (a := (R r 3).toNat) (b := (R r 4).toNat) (by omega) (by omega)
        have M2 := zb_MM_fr e2 t1 (by decide)
        have f2 : zb_fr zb_ZLR u t.2 := zb_fr_trans e4 (zb_fr_mono t1 (by decide))
        rw [t2]
        unfold F_Mo_most_b121
        by_cases w5 : zb_D N A B M O (R r 2) (R r 3).toNat (R r 4).toNat < 100000
        · have ept : zb_pt N A B M O (R r) (R r 5) = zb_D N A B M O (R r 2) (R r 3).toNat (R r 4).toNat * R r 5 / 10 := by unfold zb_pt; rw [if_pos w4, if_pos w5]
          have m := zb_mulr (y := 9999) (x := 3000) D.1 (D.2.2 w5) a5.1 a5.2.1
          simp only [w5, if_true]
          refine zb_Wpos (zb_ge0 D.1 (by omega)) ?_
          rw [show (10 : Int32) = zb_i 10 from zb_n_i 10, zb_i_mul, zb_i_div (by omega) (by omega) (by omega) (by omega), Int.tdiv_eq_ediv_of_nonneg m.1]
          exact fin _ _ (by omega) M2 f2 (Or.inl ept.symm)
        · have ept : zb_pt N A B M O (R r) (R r 5) = -1 := by unfold zb_pt; rw [if_pos w4, if_neg w5]
          simp only [w5, if_false]
          refine zb_Wneg (by decide) ?_
          rw [show (0 : Int32) = zb_i 0 from zb_n_i 0]
          exact fin _ _ (by omega) M2 f2 (Or.inr ⟨rfl, ept⟩)
      · rw [if_neg w4]
        have ept : zb_pt N A B M O (R r) (R r 5) = R r 5 := by unfold zb_pt; rw [if_neg w4]
        exact fin _ _ (by omega) e2 e4 (Or.inl ept.symm)
end MST
