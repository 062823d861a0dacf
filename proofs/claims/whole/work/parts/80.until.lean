/-! withdraw and undo -/
def zb_R8 (R : Nat → Nat → Int) (r0 : Nat) (v : Int) : Nat → Nat → Int := fun r f => if r = r0 ∧ f = 8 then v else R r f
section UNT
variable {N K td Q T W Z : Nat} {A B O ZK : Nat → Nat} {M LO LD : Nat → Int} {LE : Nat → List zb_EF} {R TK WK : Nat → Nat → Int} {s : sv_S}
variable {x1 x2 x3 x4 x5 x6 x7 : Int32} {r0 : Nat} {v : Int}
theorem zb_QX_8 (hQ : Q ≤ 60) (h : zb_QX Q R s) (hr : r0 < Q) : zb_QX Q (zb_R8 R r0 v) (ss_setI (ss_setI s (91 + r0) 11 (zb_b (decide (0 ≤ v)))) (91 + r0) 8 (zb_i v)) := by
  refine ⟨?_, fun r hr' => ⟨?_, fun f h1 h2 => ?_, ?_⟩, fun r h1 h2 => ?_⟩
  · rw [zb_set_ne (by omega), zb_set_ne (by omega)]; exact h.1
  · rw [zb_set_ne (by omega), zb_set_ne (by omega)]; exact (h.2.1 r hr').1
  · unfold zb_R8
    by_cases q : r = r0 ∧ f = 8
    · rw [if_pos q, q.1, q.2, zb_set_eq]
    · rw [if_neg q, zb_set_ne (by omega), zb_set_ne (by omega)]; exact (h.2.1 r hr').2.1 f h1 h2
  · rw [zb_set_ne (by omega)]
    unfold zb_R8
    by_cases q : r = r0
    · rw [q, zb_set_eq, if_pos ⟨rfl, rfl⟩]
    · rw [zb_set_ne (by omega), if_neg (fun z => q z.1)]; exact (h.2.1 r hr').2.2
  · rw [zb_set_ne (by omega), zb_set_ne (by omega)]; exact h.2.2 r h1 h2
theorem zb_QM_8 (h : zb_QM Q R s) : zb_QM Q (zb_R8 R r0 v) (ss_setI s 212 r0 (zb_i v)) := by
  refine ⟨(zb_set_ne (by omega)).trans h.1, fun r hr f h1 h2 => ?_⟩
  unfold zb_R8
  by_cases q : r = r0 ∧ f = 8
  · rw [if_pos q, q.1, q.2, zb_set_eq]
  · rw [if_neg q, zb_set_ne (by omega)]; exact h.2 r hr f h1 h2
theorem zb_R8_ne {r f : Nat} (h : f ≠ 8) : zb_R8 R r0 v r f = R r f := by unfold zb_R8; rw [if_neg (fun z => h z.2)]
theorem zb_MW_8 (hW : zb_MW N A B M O K LO LD LE td Q R T TK W WK Z ZK) (h1 : -1 ≤ v) (h2 : v ≤ 9999) : zb_MW N A B M O K LO LD LE td Q (zb_R8 R r0 v) T TK W WK Z ZK := by
  refine ⟨hW.1, hW.2.1, fun r hr => ?_, hW.2.2.2.1, hW.2.2.2.2.1, hW.2.2.2.2.2.1, hW.2.2.2.2.2.2.1, hW.2.2.2.2.2.2.2.1, fun z hz => ?_, hW.2.2.2.2.2.2.2.2.2⟩
  · obtain ⟨a1, a2, a3, a4, a5, a6, a7, a8, a9, a10, a11⟩ := hW.2.2.1 r hr
    unfold zb_rok
    have e : ∀ f, f ≠ 8 → zb_R8 R r0 v r f = R r f := fun f hf => zb_R8_ne hf
    rw [e 1 (by omega), e 2 (by omega), e 3 (by omega), e 4 (by omega), e 5 (by omega), e 6 (by omega), e 7 (by omega), e 9 (by omega), e 10 (by omega)]
    refine ⟨a1, a2, a3, a4, a5, a6, a7, a8, ?_, a10, a11⟩
    unfold zb_R8
    split <;> omega
  · rw [zb_R8_ne (by omega), zb_R8_ne (by omega), zb_R8_ne (by omega)]; exact hW.2.2.2.2.2.2.2.2.1 z hz
theorem zb_c_withdraw (h : zb_J s) : zb_m11 (F_X_withdraw x1 s) (F_Mo_withdraw x1) s := by
  obtain ⟨N, A, B, M, O, K, LO, LD, LE, td, Q, R, T, TK, W, WK, Z, ZK, h⟩ := h
  have hj := zb_J_of h
  have kr := zb_keep_refl s
  obtain ⟨hW, hM, hX, hO, hB⟩ := h
  have hQ := hW.2.1
  have td9 := hW.1
  unfold zb_m11
  simp only [F_X_withdraw, zb_g_rate hX hQ, zb_g_owner, zb_g_station, zb_g_good, zb_g_tape, zb_g_day, zb_g_tons, zb_g_stations, zb_g_no1, zb_h_owner, zb_h_station, zb_h_good, zb_h_day, zb_h_tons, zb_h_tape, zb_h_inL, Option.bind_some, zb_bz, Int32.reduceToInt, zb_m1t, zb_m3t]
  by_cases q1 : 0 ≤ x1.toInt ∧ x1.toInt < Q
  rotate_left
  · simp only [q1, not_false_iff, if_true]
    refine zb_Wsome ⟨kr, ?_⟩
    unfold F_Mo_withdraw
    rw [zb_h_rate hM hQ]
    exact zb_Wbind (zb_Wsome (zb_Wpos (zb_bF q1) (zb_Wsome ⟨rfl, hj, kr⟩)))
  simp only [q1, and_self, not_true, if_false]
  obtain ⟨r, hr, rfl⟩ := zb_an3 q1
  have rk := hW.2.2.1 r hr
  have ir : sv_ib (zb_n r) 60 = true := by rw [zb_ib_n (by omega)]; omega
  have z5 : ∀ y : Int32, y = zb_i (R r 1) → ((y = (5 : Int32)) = (R r 1 = 5)) := fun y hy => by rw [hy, show (5 : Int32) = zb_i 5 from zb_n_i 5]; have := rk.1; exact zb_i_eq (by omega) (by omega) (by omega) (by omega)
  have kn := zb_kn_rg rk
  have z6 : (zb_i (zb_kn (R r)) = (6 : Int32)) = (zb_kn (R r) = 6) := by rw [show (6 : Int32) = zb_i 6 from zb_n_i 6]; exact zb_i_eq (by omega) (by omega) (by omega) (by omega)
  rw [zb_row (by omega)]
  refine zb_Wbind (zb_Wsome (zb_Wpos (zb_ok91 (by omega)) ?_))
  rw [(hX.2.2.2.2.1.2.1 r hr).2.2]
  -- refused alike
  have no : (0 ≤ R r 8 ∨ R r 1 = 5) → zb_W (F_Mo_withdraw (zb_n r) s) (fun q => q.1 = (-3 : Int32) ∧ zb_J q.2 ∧ zb_keep s q.2) := by
    intro hn
    unfold F_Mo_withdraw
    rw [zb_h_rate hM hQ]
    refine zb_Wbind (zb_Wsome (zb_Wneg (zb_bT q1) ?_))
    rw [zb_kind_M hW hM hr]
    refine zb_Wbind (zb_Wsome ?_)
    simp only [z6]
    by_cases w : 0 ≤ R r 8
    · exact zb_Wpos (by unfold zb_kn; rw [if_pos w]) (zb_Wsome ⟨rfl, hj, kr⟩)
    · have k1 : R r 1 = 5 := by omega
      refine zb_Wneg (by unfold zb_kn; rw [if_neg w]; omega) (zb_Wpos ir ?_)
      rw [zb_n_ix (by omega)]
      exact zb_Wpos (by rw [z5 _ (zb_fldM hM.2.2.2.1 hr (f := 1) (by omega) (by omega) rfl)]; exact k1) (zb_Wsome ⟨rfl, hj, kr⟩)
  by_cases w : 0 ≤ R r 8
  · refine zb_Wneg (zb_bT w) (zb_Wsome ⟨kr, no (Or.inl w)⟩)
  refine zb_Wpos (zb_bF w) ?_
  by_cases w2 : R r 1 = 5
  · exact zb_Wpos (by rw [z5 _ (zb_fld hX hr (by omega) (by omega))]; exact w2) (zb_Wsome ⟨kr, no (Or.inr w2)⟩)
  refine zb_Wneg (by rw [z5 _ (zb_fld hX hr (by omega) (by omega))]; exact w2) ?_
  unfold F_Ra_takeOut
  rw [hX.2.2.2.1]
  refine zb_Wbind (zb_Wlet (zb_Wlet (zb_Wsome (zb_Wsome ?_))))
  have e1 : (1 : Int32) = zb_b (decide (0 ≤ (td : Int))) := by rw [decide_eq_true (by omega)]; rfl
  rw [e1, zb_n_i td]
  have c1 : ∀ k, ([91] : List Nat).contains (zb_rg (91 + r) k) = true := fun k => by rw [zb_rg91 (by omega)]; rfl
  have f1 : zb_fr [91] s (ss_setI (ss_setI s (91 + r) 11 (zb_b (decide (0 ≤ (td : Int))))) (91 + r) 8 (zb_i td)) := zb_fr_set (zb_fr_set (zb_fr_refl _ _) (c1 _)) (c1 _)
  have X1 := zb_MX_Q hQ hX f1 (by decide) (by decide) (zb_QX_8 (v := td) hQ hX.2.2.2.2.1 hr)
  have M1 := zb_MM_fr hM f1 (by decide)
  have O1 := zb_Jo_fx hO (zb_fr_fx f1) (by decide)
  have k1 := zb_keep_fr f1 rfl
  have u2 := f1.2
  refine ⟨k1, ?_⟩
  dsimp only
  generalize ss_setI (ss_setI s (91 + r) 11 (zb_b (decide (0 ≤ (td : Int))))) (91 + r) 8 (zb_i td) = u at *
  unfold F_Mo_withdraw
  rw [zb_h_rate M1 hQ]
  refine zb_Wbind (zb_Wsome (zb_Wneg (zb_bT q1) ?_))
  rw [zb_kind_M hW M1 hr]
  refine zb_Wbind (zb_Wsome ?_)
  simp only [z6]
  refine zb_Wneg (by unfold zb_kn; rw [if_neg w]; have := rk.1; omega) (zb_Wpos ir ?_)
  rw [zb_n_ix (by omega)]
  refine zb_Wneg (by rw [z5 _ (zb_fldM M1.2.2.2.1 hr (f := 1) (by omega) (by omega) rfl)]; exact w2) (zb_Wpos ir (zb_Wlet ?_))
  rw [M1.2.2.1, zb_n_i td]
  have f2 : zb_fr [212] u (ss_setI u 212 r (zb_i td)) := zb_fr_set (zb_fr_refl _ _) rfl
  refine zb_Wsome ⟨by rw [decide_eq_true (by omega)]; rfl, zb_J_of (R := zb_R8 R r td) ⟨zb_MW_8 hW (by omega) (by omega), zb_MM_Q M1 f2 (by decide) (zb_QM_8 M1.2.2.2.1), zb_MX_fr hQ X1 f2 (by decide) (by decide), zb_Jo_fx O1 (zb_fr_fx f2) (by decide), ?_⟩, zb_keep_trans k1 (zb_keep_fr f2 rfl)⟩
  rw [f2.2, u2]; exact hB
end UNT
