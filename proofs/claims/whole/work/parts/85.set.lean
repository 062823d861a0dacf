/-! set -/
section SETC
variable {N K td Q T W Z : Nat} {A B O ZK : Nat → Nat} {M LO LD : Nat → Int} {LE : Nat → List zb_EF} {R TK WK : Nat → Nat → Int} {s : sv_S}
variable {x1 x2 x3 x4 x5 x6 x7 : Int32} {f : Nat → Int} {r0 k0 : Nat} {v : Int}
theorem zb_co_rg2 (hM : zb_LM K LO LD LE s) {r : Nat} (rk : zb_rok r f) (d : Int) : 0 ≤ zb_co K LO LD LE f d ∧ zb_co K LO LD LE f d ≤ 9 := by
  unfold zb_co
  obtain ⟨a, b, c⟩ := rk.2.2.2.2.2.2.1
  split
  · have v := zb_v_rg hM (f 2) d (20 + (f 6).toNat)
    exact ⟨v.1, v.2.2.2 (by omega)⟩
  · next e => exact ⟨a, c e⟩
theorem zb_c_set (h : zb_J s) : zb_m11 (F_X_set x1 x2 s) (F_Mo_set x1 x2) s := by
  obtain ⟨N, A, B, M, O, K, LO, LD, LE, td, Q, R, T, TK, W, WK, Z, ZK, h⟩ := h
  have hj := zb_J_of h
  have h0 := h
  obtain ⟨hW, hM, hX, hO, hB⟩ := h
  have hQ := hW.2.1
  have td9 := hW.1
  simp only [F_X_set, zb_g_pence, zb_p5, if_false, zb_g_full hX hQ, zb_g_rate hX hQ, zb_g_owner, zb_g_station, zb_g_good, zb_g_tape, zb_g_day, zb_g_tons, zb_g_stations, zb_g_no1, zb_h_owner, zb_h_station, zb_h_good, zb_h_day, zb_h_tons, zb_h_tape, zb_h_inL, Option.bind_some, zb_bz, Int32.reduceToInt, zb_m1t, zb_m3t]
  have mg : ∀ u, zb_MM N A B M O K LO LD LE td Q R T TK W WK Z ZK u → F_Mo_set x1 x2 u = if ¬ (0 ≤ x1.toInt ∧ x1.toInt < Q) then some ((-1 : Int32), u) else if ¬ (0 ≤ x2.toInt ∧ x2.toInt ≤ 9999) then some ((-2 : Int32), u) else (F_Mo_nowKind x1 u).bind fun r3 =>
    if r3 = (6 : Int32) then some ((-3 : Int32), u) else if sv_ib x1 60 = true then if (u.1 205 x1.toNatClampNeg) = (5 : Int32) then some ((-3 : Int32), u) else if ¬ Q < 60 then some ((-4 : Int32), u) else if sv_ib x1 60 = true then
      (F_Mo_look (u.1 206 x1.toNatClampNeg) (u.1 187 0) u).bind fun r4 =>
      if sv_ib x1 60 = true then
        ss_let (ss_setI r4 212 x1.toNatClampNeg (r4.1 187 0)) fun s5 =>
        if sv_ib x1 60 = true then
          if sv_ib x1 60 = true then
            if sv_ib x1 60 = true then
              if sv_ib x1 60 = true then
                if (s5.1 205 x1.toNatClampNeg) = (2 : Int32) then
                  if sv_ib x1 60 = true then
                    if sv_ib (s5.1 210 x1.toNatClampNeg) 20 = true then
                      (F_Mo_add (5 : Int32) (s5.1 206 x1.toNatClampNeg) (s5.1 207 x1.toNatClampNeg) (s5.1 208 x1.toNatClampNeg) x2 (s5.1 187 0) (s5.1 199 (s5.1 210 x1.toNatClampNeg).toNatClampNeg) (1 : Int32) x1 s5).bind fun r7 =>
                      some (r7.1, r7.2)
                    else none
                  else none
                else
                if sv_ib x1 60 = true then
                  (F_Mo_add (5 : Int32) (s5.1 206 x1.toNatClampNeg) (s5.1 207 x1.toNatClampNeg) (s5.1 208 x1.toNatClampNeg) x2 (s5.1 187 0) (s5.1 210 x1.toNatClampNeg) (1 : Int32) x1 s5).bind fun r6 =>
                  some (r6.1, r6.2)
                else none
              else none
            else none
          else none
        else none
      else none
    else none else none := by
    intro u hu
    simp only [F_Mo_set, zb_h_full hu hQ, zb_h_rate hu hQ, zb_g_owner, zb_g_station, zb_g_good, zb_g_tape, zb_g_day, zb_g_tons, zb_g_stations, zb_g_no1, zb_h_owner, zb_h_station, zb_h_good, zb_h_day, zb_h_tons, zb_h_tape, zb_h_inL, Option.bind_some, zb_bz, Int32.reduceToInt, zb_m1t, zb_m3t]
  by_cases q1 : 0 ≤ x1.toInt ∧ x1.toInt < Q
  rotate_left
  · refine zb_m11_no (v := (-1 : Int32)) hj (if_pos q1) ?_
    rw [mg s hM, if_pos q1]
  rw [if_neg (not_not_intro q1)]
  by_cases q2 : 0 ≤ x2.toInt ∧ x2.toInt ≤ 9999
  rotate_left
  · refine zb_m11_no (v := (-2 : Int32)) hj (if_pos q2) ?_
    rw [mg s hM, if_neg (not_not_intro q1), if_pos q2]
  rw [if_neg (not_not_intro q2)]
  obtain ⟨r, hr, rfl⟩ := zb_an3 q1
  have rk := hW.2.2.1 r hr
  have ir : sv_ib (zb_n r) 60 = true := by rw [zb_ib_n (by omega)]; omega
  have z5 : ∀ y : Int32, y = zb_i (R r 1) → ((y = (5 : Int32)) = (R r 1 = 5)) := fun y hy => by rw [hy, show (5 : Int32) = zb_i 5 from zb_n_i 5]; have := rk.1; exact zb_i_eq (by omega) (by omega) (by omega) (by omega)
  have z2 : ∀ y : Int32, y = zb_i (R r 1) → ((y = (2 : Int32)) = (R r 1 = 2)) := fun y hy => by rw [hy, show (2 : Int32) = zb_i 2 from zb_n_i 2]; have := rk.1; exact zb_i_eq (by omega) (by omega) (by omega) (by omega)
  have kn := zb_kn_rg rk
  have z6 : (zb_i (zb_kn (R r)) = (6 : Int32)) = (zb_kn (R r) = 6) := by rw [show (6 : Int32) = zb_i 6 from zb_n_i 6]; exact zb_i_eq (by omega) (by omega) (by omega) (by omega)
  rw [zb_row (by omega), Option.bind_some, if_pos (zb_ok91 (by omega)), (hX.2.2.2.2.1.2.1 r hr).2.2]
  by_cases w : 0 ≤ R r 8
  · refine zb_m11_no (v := (-3 : Int32)) hj (if_neg (zb_bT w)) ?_
    rw [mg s hM, if_neg (not_not_intro q1), if_neg (not_not_intro q2), zb_kind_M hW hM hr, Option.bind_some, if_pos (by rw [z6]; unfold zb_kn; rw [if_pos w])]
  rw [if_pos (zb_bF w)]
  have k6 : ¬ zb_kn (R r) = 6 := by unfold zb_kn; rw [if_neg w]; have := rk.1; omega
  have mg2 : ∀ u, zb_MM N A B M O K LO LD LE td Q R T TK W WK Z ZK u → u.1 205 r = zb_i (R r 1) := fun u hu => zb_fldM hu.2.2.2.1 hr (f := 1) (by omega) (by omega) rfl
  by_cases w2 : R r 1 = 5
  · refine zb_m11_no (v := (-3 : Int32)) hj (if_pos (by rw [z5 _ (zb_fld hX hr (by omega) (by omega))]; exact w2)) ?_
    rw [mg s hM, if_neg (not_not_intro q1), if_neg (not_not_intro q2), zb_kind_M hW hM hr, Option.bind_some, if_neg (by rw [z6]; exact k6), if_pos ir, zb_n_ix (by omega), if_pos (by rw [z5 _ (mg2 s hM)]; exact w2)]
  rw [if_neg (by rw [z5 _ (zb_fld hX hr (by omega) (by omega))]; exact w2)]
  by_cases c5 : Q < 60
  rotate_left
  · refine zb_m11_no (v := (-4 : Int32)) hj (if_neg (not_not_intro c5)) ?_
    rw [mg s hM, if_neg (not_not_intro q1), if_neg (not_not_intro q2), zb_kind_M hW hM hr, Option.bind_some, if_neg (by rw [z6]; exact k6), if_pos ir, zb_n_ix (by omega), if_neg (by rw [z5 _ (mg2 s hM)]; exact w2), if_pos c5]
  rw [if_pos (not_not_intro c5)]
  have co := zb_co_rg2 hM.2.1 rk td
  let f : Nat → Int := zb_fl [0, 5, R r 2, R r 3, R r 4, x2.toInt, zb_co K LO LD LE (R r) td, td, -1, 1, r]
  let f1 : Nat → Int := zb_fl [0, 5, R r 2, R r 3, R r 4, x2.toInt, zb_co K LO LD LE (R r) td, td, -1, 1, -1]
  have rok : zb_rok Q f := by
    obtain ⟨_, a2, a3, a4, a5, _⟩ := id rk
    refine ⟨⟨(by decide : (0 : Int) ≤ 5), (by decide : (5 : Int) ≤ 5)⟩, a2, a3, a4, a5, ⟨q2.1, q2.2, fun e => absurd e (by decide : ¬ (5 : Int) = 3)⟩, ⟨co.1, ?_, fun _ => co.2⟩, ⟨?_, ?_⟩, ⟨(by decide : (-1 : Int) ≤ -1), (by decide : (-1 : Int) ≤ 9999)⟩, ⟨(by decide : (1 : Int) ≤ 1), (by decide : (1 : Int) ≤ 99), fun _ => rfl⟩, ⟨?_, ?_, fun _ => ?_⟩⟩
    · show zb_co K LO LD LE (R r) td ≤ 19; omega
    · show 0 ≤ (td : Int); omega
    · show (td : Int) ≤ 19998; omega
    · show (-1 : Int) ≤ r; omega
    · show (r : Int) < Q; omega
    · show (0 : Int) ≤ r; omega
  have ef : (fun k => if k = 10 then (r : Int) else f1 k) = f := by
    funext k
    show (if k = 10 then (r : Int) else ([0, 5, R r 2, R r 3, R r 4, x2.toInt, zb_co K LO LD LE (R r) td, td, -1, 1, -1] : List Int).getD k 0) = ([0, 5, R r 2, R r 3, R r 4, x2.toInt, zb_co K LO LD LE (R r) td, td, -1, 1, r] : List Int).getD k 0
    match k with
    | 0 | 1 | 2 | 3 | 4 | 5 | 6 | 7 | 8 | 9 | 10 => rfl
    | n + 11 => rfl
  have W1 : zb_MW N A B M O K LO LD LE td (Q + 1) (zb_RA (zb_R8 R r td) Q f) T TK W WK Z ZK := zb_MW_add (zb_MW_8 hW (by omega) (by omega)) c5 rok
  refine zb_m11_ch (v := zb_n Q) (LX := zb_LQX) (LM := zb_LQM ++ zb_ZL) h0 W1 ?_ (fun u hu => ?_) (by decide) (by decide) (by decide)
  · rw [hX.2.2.2.1, zb_n_i td]
    refine zb_Wbind2 (zb_classOf_X hW hX hr (show (0 : Int) ≤ td by omega) (by omega)) (fun p hp => ?_)
    obtain ⟨p1, p2, p3⟩ := hp
    rw [p1, p2.2.2.2.1, zb_n_i td, show (5 : Int32) = zb_i 5 from zb_n_i 5, zb_fld p2 hr (f := 2) (by omega) (by omega), zb_fld p2 hr (f := 3) (by omega) (by omega), zb_fld p2 hr (f := 4) (by omega) (by omega)]
    conv => lhs; rw [zb_i_of x2]
    refine zb_Wbind2 (zb_addX (f := f1) c5 p2 rfl rfl rfl) (fun q hq => ?_)
    obtain ⟨a1, a2, a3⟩ := hq
    rw [a1, zb_row c5]
    refine zb_Wbind (zb_Wsome (zb_Wpos (zb_ok91 c5) (zb_Wlet ?_)))
    rw [zb_n_i r]
    have g1 : zb_fr [91] q.2 (ss_setI q.2 (91 + Q) 10 (zb_i r)) := zb_fr_set (zb_fr_refl _ _) (by rw [zb_rg91 c5]; rfl)
    have k := zb_QX_k (r0 := Q) (k0 := 10) (v := r) a2.2.2.2.2.1 (by omega) (by omega)
    rw [zb_Rk_RA, ef] at k
    have X2 := zb_MX_Q (by omega) a2 g1 (by decide) (by decide) k
    generalize ss_setI q.2 (91 + Q) 10 (zb_i r) = t at *
    unfold F_Ra_takeOut
    rw [X2.2.2.2.1]
    refine zb_Wbind (zb_Wlet (zb_Wlet (zb_Wsome (zb_Wsome ?_))))
    have e1 : (1 : Int32) = zb_b (decide (0 ≤ (td : Int))) := by rw [decide_eq_true (by omega)]; rfl
    rw [e1, zb_n_i td]
    have c1 : ∀ k, ([91] : List Nat).contains (zb_rg (91 + r) k) = true := fun k => by rw [zb_rg91 (by omega)]; rfl
    have g2 : zb_fr [91] t (ss_setI (ss_setI t (91 + r) 11 (zb_b (decide (0 ≤ (td : Int))))) (91 + r) 8 (zb_i td)) := zb_fr_set (zb_fr_set (zb_fr_refl _ _) (c1 _)) (c1 _)
    have k2 := zb_QX_8 (r0 := r) (v := td) (by omega) X2.2.2.2.2.1 (by omega)
    rw [zb_R8_RA (by omega)] at k2
    refine ⟨rfl, zb_MX_Q (by omega) X2 g2 (by decide) (by decide) k2, ?_⟩
    exact zb_fx_trans (zb_fx_mono p3 (by decide)) (zb_fx_trans (zb_fx_mono a3 (by decide)) (zb_fx_trans (zb_fx_mono (zb_fr_fx g1) (by decide)) (zb_fx_mono (zb_fr_fx g2) (by decide))))
  · rw [mg u hu, if_neg (not_not_intro q1), if_neg (not_not_intro q2), zb_kind_M hW hu hr, Option.bind_some, if_neg (by rw [z6]; exact k6), if_pos ir, zb_n_ix (by omega), if_neg (by rw [z5 _ (mg2 u hu)]; exact w2), if_neg (not_not_intro c5), if_pos ir]
    rw [zb_fldM hu.2.2.2.1 hr (f := 2) (c := 206) (by omega) (by omega) rfl, hu.2.2.1, zb_n_i td]
    refine zb_Wbind2 (zb_look hu.2.1 (by have := rk.2.1; omega) rk.2.1.2 (show (0 : Int) ≤ td by omega) (by omega)) (fun p hp => ?_)
    obtain ⟨p1, sm, ex, mv, _⟩ := hp
    have M1 := zb_MM_fr hu p1 (by decide)
    simp only [ir, if_true]
    refine zb_Wlet ?_
    rw [M1.2.2.1, zb_n_i td]
    have g1 : zb_fr [212] p (ss_setI p 212 r (zb_i td)) := zb_fr_set (zb_fr_refl _ _) rfl
    have M2 := zb_MM_Q M1 g1 (by decide) (zb_QM_8 (r0 := r) (v := td) M1.2.2.2.1)
    have e199 : ∀ k, (ss_setI p 212 r (zb_i td)).1 199 k = p.1 199 k := fun k => zb_set_ne (by omega)
    generalize ss_setI p 212 r (zb_i td) = t at *
    have fm : ∀ k c, 1 ≤ k → k ≤ 7 → 204 + k = c → t.1 c r = zb_i (R r k) := fun k c h1 h2 hc => by
      rw [zb_fldM M2.2.2.2.1 hr (f := k) h1 (by omega) hc, zb_R8_ne (by omega)]
    rw [fm 1 205 (by omega) (by omega) rfl, fm 2 206 (by omega) (by omega) rfl, fm 3 207 (by omega) (by omega) rfl, fm 4 208 (by omega) (by omega) rfl, fm 6 210 (by omega) (by omega) rfl, M2.2.2.1, zb_n_i td]
    conv => lhs; rw [zb_i_of x2]
    rw [show (5 : Int32) = zb_i 5 from zb_n_i 5, show (1 : Int32) = zb_i 1 from zb_n_i 1, zb_n_i r]
    have a6 := rk.2.2.2.2.2.2.1
    have fin : ∀ y, y = zb_i (f 6) → zb_W ((F_Mo_add (zb_i 5) (zb_i (R r 2)) (zb_i (R r 3)) (zb_i (R r 4)) (zb_i x2.toInt) (zb_i td) y (zb_i 1) (zb_i r) t).bind fun r6 => some (r6.1, r6.2)) (zb_didM N A B M O K LO LD LE td (Q + 1) (zb_RA (zb_R8 R r td) Q f) T TK W WK Z ZK (zb_LQM ++ zb_ZL) u (zb_n Q)) := by
      intro y hy
      subst hy
      exact zb_Wbind2 (zb_addM (f := f) c5 M2 rfl) (fun q hq => zb_Wsome ⟨hq.1, hq.2.1, zb_fr_trans (zb_fr_mono p1 (by decide)) (zb_fr_trans (zb_fr_mono g1 (by decide)) (zb_fr_mono hq.2.2 (by decide)))⟩)
    have f6 : f 6 = zb_co K LO LD LE (R r) td := rfl
    unfold zb_co at f6
    by_cases e2 : R r 1 = 2
    · refine zb_Wpos (by rw [z2 _ rfl]; exact e2) (zb_Wpos (by rw [zb_ib_i (by omega) (by omega)]; omega) (fin _ ?_))
      rw [zb_i_ix (by omega) (by omega), e199, mv.2.2.2.1 _ (by omega), f6, if_pos e2]
    · refine zb_Wneg (by rw [z2 _ rfl]; exact e2) (fin _ ?_)
      rw [f6, if_neg e2]
end SETC
