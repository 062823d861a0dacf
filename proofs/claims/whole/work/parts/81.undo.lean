/-! a call that changes both sides alike -/
section CH2
variable {N K td Q T W Z : Nat} {A B O ZK : Nat → Nat} {M LO LD : Nat → Int} {LE : Nat → List zb_EF} {R TK WK : Nat → Nat → Int} {s : sv_S}
variable {td' Q' T' W' Z' : Nat} {R' TK' WK' : Nat → Nat → Int} {ZK' : Nat → Nat}
variable {x1 x2 x3 x4 x5 x6 x7 : Int32}
def zb_did (N : Nat) (A B : Nat → Nat) (M : Nat → Int) (O : Nat → Nat) (K : Nat) (LO LD : Nat → Int) (LE : Nat → List zb_EF) (td Q : Nat) (R : Nat → Nat → Int) (T : Nat) (TK : Nat → Nat → Int) (W : Nat) (WK : Nat → Nat → Int) (Z : Nat) (ZK : Nat → Nat) (L : List Nat) (s : sv_S) (v : Int32) (r : Int32 × sv_S) : Prop := r.1 = v ∧ zb_MX N A B M O K LO LD LE td Q R T TK W WK Z ZK r.2 ∧ zb_fx L s r.2
def zb_didM (N : Nat) (A B : Nat → Nat) (M : Nat → Int) (O : Nat → Nat) (K : Nat) (LO LD : Nat → Int) (LE : Nat → List zb_EF) (td Q : Nat) (R : Nat → Nat → Int) (T : Nat) (TK : Nat → Nat → Int) (W : Nat) (WK : Nat → Nat → Int) (Z : Nat) (ZK : Nat → Nat) (L : List Nat) (s : sv_S) (v : Int32) (r : Int32 × sv_S) : Prop := r.1 = v ∧ zb_MM N A B M O K LO LD LE td Q R T TK W WK Z ZK r.2 ∧ zb_fr L s r.2
theorem zb_m11_ch {v : Int32} {x : Option (Int32 × sv_S)} {m : sv_S → Option (Int32 × sv_S)} {LX LM : List Nat} (h : zb_J1 N A B M O K LO LD LE td Q R T TK W WK Z ZK s) (hW : zb_MW N A B M O K LO LD LE td' Q' R' T' TK' W' WK' Z' ZK')
    (hx : zb_W x (zb_did N A B M O K LO LD LE td' Q' R' T' TK' W' WK' Z' ZK' LX s v))
    (hm : ∀ u, zb_MM N A B M O K LO LD LE td Q R T TK W WK Z ZK u → zb_W (m u) (zb_didM N A B M O K LO LD LE td' Q' R' T' TK' W' WK' Z' ZK' LM u v))
    (h1 : (zb_PM ++ zb_PO1).all (fun x => !LX.contains x) = true) (h2 : (zb_PX ++ zb_PO1).all (fun x => !LM.contains x) = true) (h25 : LM.all (fun x => decide (25 ≤ x)) = true) : zb_m11 x m s := by
  have a1 : zb_PM.all (fun x => !LX.contains x) = true := zb_all_sub h1 (by decide)
  have a2 : zb_PO1.all (fun x => !LX.contains x) = true := zb_all_sub h1 (by decide)
  have b1 : zb_PX.all (fun x => !LM.contains x) = true := zb_all_sub h2 (by decide)
  have b2 : zb_PO1.all (fun x => !LM.contains x) = true := zb_all_sub h2 (by decide)
  have c1 : LX.contains 0 = false := zb_no_in a2 (by decide)
  have c2 : LM.contains 0 = false := zb_no_in b2 (by decide)
  refine zb_Wmono hx (fun r hr => ?_)
  obtain ⟨r1, r2, r3⟩ := hr
  have k1 := zb_keep_fx r3 c1
  refine ⟨k1, zb_Wmono (hm r.2 (zb_MM_fx h.2.1 r3 a1)) (fun q hq => ?_)⟩
  obtain ⟨q1, q2, q3⟩ := hq
  refine ⟨by rw [q1, r1], zb_J_of ⟨hW, q2, zb_MX_fr hW.2.1 r2 q3 b1 h25, zb_Jo_fx (zb_Jo_fx h.2.2.2.1 r3 a2) (zb_fr_fx q3) b2, ?_⟩, zb_keep_trans k1 (zb_keep_fr q3 c2)⟩
  rw [q3.2, r3.2.2.2]; exact h.2.2.2.2
theorem zb_c_undo (h : zb_J s) : zb_m11 (F_X_undo x1 s) (F_Mo_undo x1) s := by
  obtain ⟨N, A, B, M, O, K, LO, LD, LE, td, Q, R, T, TK, W, WK, Z, ZK, h⟩ := h
  have hj := zb_J_of h
  have kr := zb_keep_refl s
  have h0 := h
  obtain ⟨hW, hM, hX, hO, hB⟩ := h
  have hQ := hW.2.1
  have td9 := hW.1
  by_cases q1 : 0 ≤ x1.toInt ∧ x1.toInt < Q
  rotate_left
  · unfold zb_m11 F_X_undo
    rw [zb_g_rate hX hQ]
    refine zb_Wbind (zb_Wsome (zb_Wpos (zb_bF q1) (zb_Wsome ⟨kr, ?_⟩)))
    unfold F_Mo_undo
    rw [zb_h_rate hM hQ]
    exact zb_Wbind (zb_Wsome (zb_Wpos (zb_bF q1) (zb_Wsome ⟨rfl, hj, kr⟩)))
  obtain ⟨r, hr, rfl⟩ := zb_an3 q1
  have rk := hW.2.2.1 r hr
  have kn := zb_kn_rg rk
  have ir : sv_ib (zb_n r) 60 = true := by rw [zb_ib_n (by omega)]; omega
  have z5 : (zb_i (zb_kn (R r)) = (5 : Int32)) = (zb_kn (R r) = 5) := by rw [show (5 : Int32) = zb_i 5 from zb_n_i 5]; exact zb_i_eq (by omega) (by omega) (by omega) (by omega)
  by_cases q2 : zb_kn (R r) = 5
  rotate_left
  · unfold zb_m11 F_X_undo
    rw [zb_g_rate hX hQ]
    refine zb_Wbind (zb_Wsome (zb_Wneg (zb_bT q1) ?_))
    rw [zb_row (by omega)]
    refine zb_Wbind (zb_Wsome (zb_Wpos (zb_ok91 (by omega)) ?_))
    rw [zb_kind_X hX hr]
    refine zb_Wbind (zb_Wsome (zb_Wneg (by rw [z5]; exact q2) (zb_Wsome ⟨kr, ?_⟩)))
    unfold F_Mo_undo
    rw [zb_h_rate hM hQ]
    refine zb_Wbind (zb_Wsome (zb_Wneg (zb_bT q1) ?_))
    rw [zb_kind_M hW hM hr]
    exact zb_Wbind (zb_Wsome (zb_Wneg (by rw [z5]; exact q2) (zb_Wsome ⟨rfl, hj, kr⟩)))
  have k5 : R r 8 < 0 ∧ R r 1 = 5 := by unfold zb_kn at q2; split at q2 <;> omega
  obtain ⟨i0, i1, i2⟩ := rk.2.2.2.2.2.2.2.2.2.2
  have i3 := i2 k5.2
  have c1 : ∀ j k, j < 60 → ([91] : List Nat).contains (zb_rg (91 + j) k) = true := fun j k hj => by rw [zb_rg91 hj]; rfl
  have eX : s.1 (91 + r) 10 = zb_n (R r 10).toNat := by rw [zb_fld hX hr (by omega) (by omega), zb_in_n i3]
  have hj2 : (R r 10).toNat < Q := by omega
  generalize (R r 10).toNat = j at *
  refine zb_m11_ch (v := zb_n j) (R' := zb_R8 (zb_R8 R r td) j (-1)) (LX := [91]) (LM := [212]) h0 (zb_MW_8 (zb_MW_8 hW (by omega) (by omega)) (by omega) (by omega)) ?_ (fun u hu => ?_) (by decide) (by decide) (by decide)
  · unfold F_X_undo
    rw [zb_g_rate hX hQ]
    refine zb_Wbind (zb_Wsome (zb_Wneg (zb_bT q1) ?_))
    rw [zb_row (by omega)]
    refine zb_Wbind (zb_Wsome (zb_Wpos (zb_ok91 (by omega)) ?_))
    rw [zb_kind_X hX hr]
    refine zb_Wbind (zb_Wsome (zb_Wpos (by rw [z5]; exact q2) ?_))
    rw [eX, zb_g_rate hX hQ]
    refine zb_Wbind (zb_Wsome (zb_Wneg (zb_bT (by rw [zb_tn (by omega)]; omega)) ?_))
    unfold F_Ra_takeOut
    rw [hX.2.2.2.1]
    refine zb_Wbind (zb_Wlet (zb_Wlet (zb_Wsome ?_)))
    have e1 : (1 : Int32) = zb_b (decide (0 ≤ (td : Int))) := by rw [decide_eq_true (by omega)]; rfl
    rw [e1, zb_n_i td]
    have f1 : zb_fr [91] s (ss_setI (ss_setI s (91 + r) 11 (zb_b (decide (0 ≤ (td : Int))))) (91 + r) 8 (zb_i td)) := zb_fr_set (zb_fr_set (zb_fr_refl _ _) (c1 _ _ (by omega))) (c1 _ _ (by omega))
    have X1 := zb_MX_Q hQ hX f1 (by decide) (by decide) (zb_QX_8 (v := td) hQ hX.2.2.2.2.1 hr)
    have e2 : (ss_setI (ss_setI s (91 + r) 11 (zb_b (decide (0 ≤ (td : Int))))) (91 + r) 8 (zb_i td)).1 (91 + r) 10 = zb_n j := by rw [zb_set_ne (by omega), zb_set_ne (by omega)]; exact eX
    generalize ss_setI (ss_setI s (91 + r) 11 (zb_b (decide (0 ≤ (td : Int))))) (91 + r) 8 (zb_i td) = u at *
    rw [e2, zb_row (by omega)]
    refine zb_Wbind (zb_Wsome (zb_Wpos (zb_ok91 (by omega)) ?_))
    unfold F_Ra_putBack
    refine zb_Wbind (zb_Wlet (zb_Wlet (zb_Wsome (zb_Wsome ?_))))
    rw [zb_m1]
    have e3 : (0 : Int32) = zb_b (decide (0 ≤ (-1 : Int))) := rfl
    rw [e3]
    have f2 : zb_fr [91] u (ss_setI (ss_setI u (91 + j) 11 (zb_b (decide (0 ≤ (-1 : Int))))) (91 + j) 8 (zb_i (-1))) := zb_fr_set (zb_fr_set (zb_fr_refl _ _) (c1 _ _ (by omega))) (c1 _ _ (by omega))
    refine ⟨?_, zb_MX_Q hQ X1 f2 (by decide) (by decide) (zb_QX_8 (v := -1) hQ X1.2.2.2.2.1 hj2), zb_fr_fx (zb_fr_trans f1 f2)⟩
    dsimp only
    rw [zb_set_ne (by omega), zb_set_ne (by omega)]; exact e2
  · unfold F_Mo_undo
    rw [zb_h_rate hu hQ]
    refine zb_Wbind (zb_Wsome (zb_Wneg (zb_bT q1) ?_))
    rw [zb_kind_M hW hu hr]
    refine zb_Wbind (zb_Wsome (zb_Wpos (by rw [z5]; exact q2) (zb_Wpos ir (zb_Wlet (zb_Wpos ir ?_)))))
    rw [zb_n_ix (by omega), hu.2.2.1, zb_n_i td]
    have eM : u.1 214 r = zb_n j := by
      have a := zb_fldM hu.2.2.2.1 hr (f := 10) (c := 214) (by omega) (by omega) rfl
      have b := zb_fld hX hr (f := 10) (by omega) (by omega)
      rw [a, ← b]; exact eX
    have f1 : zb_fr [212] u (ss_setI u 212 r (zb_i td)) := zb_fr_set (zb_fr_refl _ _) rfl
    have M1 := zb_MM_Q hu f1 (by decide) (zb_QM_8 (r0 := r) (v := td) hu.2.2.2.1)
    have e2 : (ss_setI u 212 r (zb_i td)).1 214 r = zb_n j := by rw [zb_set_ne (by omega)]; exact eM
    generalize ss_setI u 212 r (zb_i td) = w at *
    rw [e2]
    refine zb_Wpos (by rw [zb_ib_n (by omega)]; omega) (zb_Wlet (zb_Wpos ir (zb_Wsome ?_)))
    rw [zb_n_ix (by omega), zb_m1]
    have f2 : zb_fr [212] w (ss_setI w 212 j (zb_i (-1))) := zb_fr_set (zb_fr_refl _ _) rfl
    refine ⟨?_, zb_MM_Q M1 f2 (by decide) (zb_QM_8 (r0 := j) (v := -1) M1.2.2.2.1), zb_fr_trans f1 f2⟩
    dsimp only
    rw [zb_set_ne (by omega)]; exact e2
end CH2
