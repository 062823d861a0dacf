/-! tries -/
def zb_R5 (R : Nat → Nat → Int) (pn : Nat → Int) : Nat → Nat → Int := fun r f => if f = 5 then pn r else R r f
theorem zb_R5_id (R : Nat → Nat → Int) : zb_R5 R (fun r => R r 5) = R := by
  funext r f
  unfold zb_R5
  by_cases q : f = 5
  · rw [if_pos q, q]
  · rw [if_neg q]
theorem zb_R5_ne {R : Nat → Nat → Int} {pn : Nat → Int} {r f : Nat} (h : f ≠ 5) : zb_R5 R pn r f = R r f := if_neg h
theorem zb_R5_5 {R : Nat → Nat → Int} {pn : Nat → Int} {r : Nat} : zb_R5 R pn r 5 = pn r := if_pos rfl
section TRI
variable {N K td Q T W Z : Nat} {A B O ZK : Nat → Nat} {M LO LD : Nat → Int} {LE : Nat → List zb_EF} {R TK WK : Nat → Nat → Int} {s : sv_S}
variable {x1 x2 x3 x4 x5 x6 x7 : Int32} {r0 : Nat} {v : Int} {pn : Nat → Int}
theorem zb_QX_5 (hr : r0 < 60) (h : zb_QX Q (zb_R5 R pn) s) : zb_QX Q (zb_R5 R (fun r => if r = r0 then v else pn r)) (ss_setI s (91 + r0) 5 (zb_i v)) := by
  refine ⟨?_, fun r hr' => ⟨?_, fun f h1 h2 => ?_, ?_⟩, fun r h1 h2 => ?_⟩
  · rw [zb_set_ne (by omega)]; exact h.1
  · rw [zb_set_ne (by omega)]; exact (h.2.1 r hr').1
  · by_cases q : f = 5
    · subst q
      rw [zb_R5_5]
      by_cases e : r = r0
      · rw [if_pos e, e, zb_set_eq]
      · rw [if_neg e, zb_set_ne (by omega), (h.2.1 r hr').2.1 5 h1 h2, zb_R5_5]
    · rw [zb_R5_ne q, zb_set_ne (by omega), (h.2.1 r hr').2.1 f h1 h2, zb_R5_ne q]
  · rw [zb_set_ne (by omega), zb_R5_ne (by omega), (h.2.1 r hr').2.2, zb_R5_ne (by omega)]
  · rw [zb_set_ne (by omega)]; exact h.2.2 r h1 h2
theorem zb_QM_5 (h : zb_QM Q (zb_R5 R pn) s) : zb_QM Q (zb_R5 R (fun r => if r = r0 then v else pn r)) (ss_setI s 209 r0 (zb_i v)) := by
  refine ⟨(zb_set_ne (by omega)).trans h.1, fun r hr f h1 h2 => ?_⟩
  by_cases q : f = 5
  · subst q
    rw [zb_R5_5]
    by_cases e : r = r0
    · rw [if_pos e, e, zb_set_eq]
    · rw [if_neg e, zb_set_ne (by omega), h.2 r hr 5 h1 h2, zb_R5_5]
  · rw [zb_R5_ne q, zb_set_ne (by omega), h.2 r hr f h1 h2, zb_R5_ne q]
theorem zb_MW_5 (hW : zb_MW N A B M O K LO LD LE td Q R T TK W WK Z ZK) (hp : ∀ r, r < Q → 0 ≤ pn r ∧ pn r ≤ 9999 ∧ (R r 1 = 3 → pn r ≤ 99)) : zb_MW N A B M O K LO LD LE td Q (zb_R5 R pn) T TK W WK Z ZK := by
  refine ⟨hW.1, hW.2.1, fun r hr => ?_, hW.2.2.2.1, hW.2.2.2.2.1, hW.2.2.2.2.2.1, hW.2.2.2.2.2.2.1, hW.2.2.2.2.2.2.2.1, fun z hz => ?_, hW.2.2.2.2.2.2.2.2.2⟩
  · obtain ⟨a1, a2, a3, a4, a5, a6, a7, a8, a9, a10, a11⟩ := hW.2.2.1 r hr
    unfold zb_rok
    have e : ∀ f, f ≠ 5 → zb_R5 R pn r f = R r f := fun f hf => zb_R5_ne hf
    rw [e 1 (by omega), e 2 (by omega), e 3 (by omega), e 4 (by omega), e 6 (by omega), e 7 (by omega), e 8 (by omega), e 9 (by omega), e 10 (by omega), zb_R5_5]
    exact ⟨a1, a2, a3, a4, a5, hp r hr, a7, a8, a9, a10, a11⟩
  · rw [zb_R5_ne (by omega), zb_R5_ne (by omega), zb_R5_ne (by omega)]; exact hW.2.2.2.2.2.2.2.2.1 z hz
theorem zb_MX_5 (hQ : Q ≤ 60) (hr : r0 < 60) (h : zb_MX N A B M O K LO LD LE td Q (zb_R5 R pn) T TK W WK Z ZK s) : zb_MX N A B M O K LO LD LE td Q (zb_R5 R (fun r => if r = r0 then v else pn r)) T TK W WK Z ZK (ss_setI s (91 + r0) 5 (zb_i v)) :=
  zb_MX_Q (L := [91]) hQ h (zb_fr_set (zb_fr_refl _ _) (by rw [zb_rg91 hr]; rfl)) (by decide) (by decide) (zb_QX_5 hr h.2.2.2.2.1)
theorem zb_MM_5 (h : zb_MM N A B M O K LO LD LE td Q (zb_R5 R pn) T TK W WK Z ZK s) : zb_MM N A B M O K LO LD LE td Q (zb_R5 R (fun r => if r = r0 then v else pn r)) T TK W WK Z ZK (ss_setI s 209 r0 (zb_i v)) :=
  zb_MM_Q (L := [209]) h (zb_fr_set (zb_fr_refl _ _) rfl) (by decide) (zb_QM_5 h.2.2.2.1)
theorem zb_back5 {R : Nat → Nat → Int} {r0 : Nat} {p : Int} : (fun r => if r = r0 then R r0 5 else if r = r0 then p else R r 5) = fun r => R r 5 := by
  funext r
  by_cases e : r = r0
  · rw [if_pos e, e]
  · rw [if_neg e, if_neg e]
theorem zb_c_tries (h : zb_J s) : zb_m11 (F_X_tries x1 x2 x3 s) (F_Mo_tries x1 x2 x3) s := by
  obtain ⟨N, A, B, M, O, K, LO, LD, LE, td, Q, R, T, TK, W, WK, Z, ZK, h⟩ := h
  have hj := zb_J_of h
  obtain ⟨hW, hM, hX, hO, hB⟩ := id h
  have hQ := hW.2.1
  by_cases q1 : 0 ≤ x1.toInt ∧ x1.toInt < Q
  rotate_left
  · refine zb_m11_no (v := (-1 : Int32)) hj ?_ ?_
    · simp only [F_X_tries, zb_g_rate hX hQ, Option.bind_some, zb_bz]; rw [if_pos q1]
    · simp only [F_Mo_tries, zb_h_rate hM hQ, Option.bind_some, zb_bz]; rw [if_pos q1]
  obtain ⟨r, hr, rfl⟩ := zb_an3 q1
  have ir : sv_ib (zb_n r) 60 = true := by rw [zb_ib_n (by omega)]; omega
  have ix : (zb_n r).toNatClampNeg = r := zb_n_ix (by omega)
  have rk := hW.2.2.1 r hr
  obtain ⟨a1, a2, a3, a4, _, a5, _⟩ := id rk
  have kn := zb_kn_rg rk
  have e3 : (zb_i (R r 1) = (3 : Int32)) = (R r 1 = 3) := by rw [show (3 : Int32) = zb_i 3 from zb_n_i 3]; exact zb_i_eq (by omega) (by omega) (by omega) (by omega)
  have xg : F_X_tries (zb_n r) x2 x3 s = if ¬ (0 ≤ x2.toInt ∧ x2.toInt ≤ if R r 1 = 3 then 99 else 9999) then some ((-2 : Int32), s) else if ¬ (0 ≤ x3.toInt ∧ x3.toInt ≤ 9999) then some ((-2 : Int32), s) else if 0 ≤ R r 8 then some ((-3 : Int32), s) else (F_Wa_sumTaken (-1 : Int32) x3 (ss_setI s (91 + r) 5 x2)).bind fun r8 => some (r8.1, ss_setI r8.2 (91 + r) 5 (zb_i (R r 5))) := by
    simp only [F_X_tries, zb_g_rate hX hQ, Option.bind_some, zb_bz]
    rw [if_neg (not_not_intro q1), zb_row (by omega), Option.bind_some, if_pos (zb_ok91 (by omega))]
    simp only [zb_g_pence, zb_g_day, Option.bind_some, zb_bz, zb_fld hX hr (f := 1) (by omega) (by omega), zb_fld hX hr (f := 5) (by omega) (by omega), (hX.2.2.2.2.1.2.1 r hr).2.2, ss_let]
    simp only [e3]
    by_cases w8 : 0 ≤ R r 8
    · simp only [w8, if_true, not_true, if_false]
    · simp only [w8, if_false, not_false_iff, if_true]
  have mg : ∀ u, zb_MM N A B M O K LO LD LE td Q R T TK W WK Z ZK u → F_Mo_tries (zb_n r) x2 x3 u = if ¬ (0 ≤ x2.toInt ∧ x2.toInt ≤ if R r 1 = 3 then 99 else 9999) then some ((-2 : Int32), u) else if ¬ (0 ≤ x3.toInt ∧ x3.toInt ≤ 9999) then some ((-2 : Int32), u) else if 0 ≤ R r 8 then some ((-3 : Int32), u) else (F_Mo_prepare x3 (ss_setI u 209 r x2)).bind fun r7 => (F_Mo_takingsOf (-1 : Int32) x3 r7).bind fun r8 => some (r8.1, ss_setI r8.2 209 r (zb_i (R r 5))) := by
    intro u hu
    have e6 : (zb_i (zb_kn (R r)) = (6 : Int32)) = (0 ≤ R r 8) := by
      rw [show (6 : Int32) = zb_i 6 from zb_n_i 6, zb_i_eq (by omega) (by omega) (by omega) (by omega)]
      unfold zb_kn
      by_cases w8 : 0 ≤ R r 8
      · rw [if_pos w8]; exact (eq_true rfl).trans (eq_true w8).symm
      · rw [if_neg w8]; exact (eq_false (by omega)).trans (eq_false w8).symm
    have t0 : (0 : Int32).toInt = 0 := by decide
    have t99 : (99 : Int32).toInt = 99 := by decide
    have t9999 : (9999 : Int32).toInt = 9999 := by decide
    simp only [F_Mo_tries, zb_h_rate hu hQ, Option.bind_some, zb_bz]
    rw [if_neg (not_not_intro q1), if_pos ir, ix, zb_fldM hu.2.2.2.1 hr (f := 1) (c := 205) (by omega) (by omega) rfl]
    simp only [F_Mo_tries_b31, zb_h_inL, zb_h_day, zb_kind_M hW hu hr, t0, t99, t9999, Option.bind_some, zb_bz, ir, if_true, ix, zb_fldM hu.2.2.2.1 hr (f := 5) (c := 209) (by omega) (by omega) rfl, ss_let]
    simp only [e3, e6]
    by_cases w3 : R r 1 = 3
    · simp only [w3, if_true]
    · simp only [w3, if_false]
  have no : ∀ v : Int32, F_X_tries (zb_n r) x2 x3 s = some (v, s) → F_Mo_tries (zb_n r) x2 x3 s = some (v, s) → zb_m11 (F_X_tries (zb_n r) x2 x3 s) (F_Mo_tries (zb_n r) x2 x3) s := fun v a b => zb_m11_no hj a b
  by_cases q2 : 0 ≤ x2.toInt ∧ x2.toInt ≤ if R r 1 = 3 then 99 else 9999
  rotate_left
  · exact no _ (by rw [xg, if_pos q2]) (by rw [mg s hM, if_pos q2])
  rw [if_neg (not_not_intro q2)] at xg
  simp only [if_neg (not_not_intro q2)] at mg
  by_cases q3 : 0 ≤ x3.toInt ∧ x3.toInt ≤ 9999
  rotate_left
  · exact no _ (by rw [xg, if_pos q3]) (by rw [mg s hM, if_pos q3])
  rw [if_neg (not_not_intro q3)] at xg
  simp only [if_neg (not_not_intro q3)] at mg
  by_cases q4 : 0 ≤ R r 8
  · exact no _ (by rw [xg, if_pos q4]) (by rw [mg s hM, if_pos q4])
  rw [if_neg q4] at xg
  simp only [if_neg q4] at mg
  obtain ⟨p, ep, rfl⟩ : ∃ p : Int, x2.toInt = p ∧ x2 = zb_i p := ⟨_, rfl, zb_i_of x2⟩
  obtain ⟨d, ed, rfl⟩ : ∃ d : Int, x3.toInt = d ∧ x3 = zb_i d := ⟨_, rfl, zb_i_of x3⟩
  rw [ep] at q2
  rw [ed] at q3
  have p9 : p ≤ 9999 := by have := q2.2; split at this <;> omega
  have p3 : R r 1 = 3 → p ≤ 99 := fun z => by have := q2.2; rw [if_pos z] at this; exact this
  have W5 : zb_MW N A B M O K LO LD LE td Q (zb_R5 R (fun q => if q = r then p else R q 5)) T TK W WK Z ZK := by
    refine zb_MW_5 hW (fun q hq => ?_)
    by_cases e : q = r
    · rw [if_pos e, e]; exact ⟨q2.1, p9, p3⟩
    · rw [if_neg e]; exact (hW.2.2.1 q hq).2.2.2.2.2.1
  refine zb_m11_ch (v := zb_i (zb_tks N A B M O K LO LD LE (zb_R5 R (fun q => if q = r then p else R q 5)) WK Q (-1) d W)) (LX := 91 :: zb_ZXc) (LM := 209 :: (zb_ZP ++ zb_ZF)) h hW ?_ (fun u hu => ?_) (by decide) (by decide) (by decide)
  · rw [xg, zb_m1]
    have hX' := hX
    rw [← zb_R5_id R] at hX'
    have X5 := zb_MX_5 (r0 := r) (v := p) hQ (by omega) hX'
    have f5 : zb_fr [91] s (ss_setI s (91 + r) 5 (zb_i p)) := zb_fr_set (zb_fr_refl _ _) (by rw [zb_rg91 (by omega)]; rfl)
    have J5 : zb_X1 N A B M O K LO LD LE td Q (zb_R5 R (fun q => if q = r then p else R q 5)) T TK W WK Z ZK (ss_setI s (91 + r) 5 (zb_i p)) := ⟨W5, ⟨zb_RM_fr hM.1 f5 (by decide), zb_LM_fr hM.2.1 f5 (by decide), trivial⟩, X5, trivial⟩
    refine zb_Wbind2 (zb_x_sumTaken J5 (o := -1) (d := d) (by omega) (by omega) q3.1 q3.2) (fun w hw => zb_Wsome ?_)
    obtain ⟨w1, w2, w3⟩ := hw
    have X6 := zb_MX_5 (r0 := r) (v := R r 5) hQ (by omega) w2.2.2.1
    rw [zb_back5, zb_R5_id] at X6
    refine ⟨w1, X6, ?_⟩
    have f6 : zb_fr [91] w.2 (ss_setI w.2 (91 + r) 5 (zb_i (R r 5))) := zb_fr_set (zb_fr_refl _ _) (by rw [zb_rg91 (by omega)]; rfl)
    exact zb_fx_trans (zb_fr_fx (zb_fr_mono f5 (by decide))) (zb_fx_trans (zb_fx_mono w3 (by decide)) (zb_fr_fx (zb_fr_mono f6 (by decide))))
  · rw [mg u hu, zb_m1]
    have hu' := hu
    rw [← zb_R5_id R] at hu'
    have M5 := zb_MM_5 (r0 := r) (v := p) hu'
    have f5 : zb_fr [209] u (ss_setI u 209 r (zb_i p)) := zb_fr_set (zb_fr_refl _ _) rfl
    refine zb_Wbind2 (zb_prepare W5 M5 q3.1 q3.2) (fun w hw => ?_)
    obtain ⟨w1, w2⟩ := hw
    refine zb_Wbind2 (zb_mm_takingsOf (⟨W5, zb_MM_fr M5 w1 (by decide), trivial⟩ : zb_M1 N A B M O K LO LD LE td Q (zb_R5 R (fun q => if q = r then p else R q 5)) T TK W WK Z ZK w) w2 (o := -1) (by omega) (by omega) q3.1 q3.2) (fun z hz => zb_Wsome ?_)
    obtain ⟨z1, z2, z3, z4⟩ := hz
    have M6 := zb_MM_5 (r0 := r) (v := R r 5) z2.2.1
    rw [zb_back5, zb_R5_id] at M6
    have f6 : zb_fr [209] z.2 (ss_setI z.2 209 r (zb_i (R r 5))) := zb_fr_set (zb_fr_refl _ _) rfl
    exact ⟨z1, M6, zb_fr_trans (zb_fr_mono f5 (by decide)) (zb_fr_trans (zb_fr_mono w1 (by decide)) (zb_fr_trans (zb_fr_mono z4 (by decide)) (zb_fr_mono f6 (by decide))))⟩
end TRI
