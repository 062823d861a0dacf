/-! law: the call -/
section LWC
variable {N K td Q T W Z : Nat} {A B O ZK : Nat → Nat} {M LO LD : Nat → Int} {LE : Nat → List zb_EF} {R TK WK : Nat → Nat → Int} {s : sv_S}
variable {x1 x2 : Int32}
theorem zb_MM_1 {v u : sv_S} (h : zb_MM N A B M O K LO LD LE td Q R T TK W WK Z ZK v) (e : v.1 = u.1) : zb_MM N A B M O K LO LD LE td Q R T TK W WK Z ZK u := by
  unfold zb_MM zb_RM zb_LM zb_QM zb_row5 zb_row1 at h ⊢
  rw [e] at h; exact h
/-- a text is held ready, and gone through -/
def zb_ZG : List Nat := 187011 :: 198 :: zb_ZL
theorem zb_goes16 {t : Nat → Int32} {n : Nat} (hn : n ≤ 140) (ht : ∀ i, i < n → s.1 197 (2240 + i) = t i) (e : s.1 198 16 = zb_n n) : zb_W (F_Mo_goes (16 : Int32) s) (fun r => r.1 = zb_b (zb_cls t n 10 0).1 ∧ zb_fr zb_ZL s r.2 ∧ r.2.1 187 25 = zb_n (zb_cls t n 10 0).2.1) := by
  unfold F_Mo_goes
  refine zb_Wlet (zb_Wpos (by decide) (zb_Wlet (zb_Wlet ?_)))
  rw [show (16 : Int32).toNatClampNeg = 16 from rfl, show (140 : Int32) * (16 : Int32) = zb_n 2240 from rfl, zb_set_ne (c := 187) (by omega), e]
  generalize hu : ss_setI (ss_setI (ss_setI s 187 23 (zb_n 2240)) 187 24 (zb_n n)) 187 25 (0 : Int32) = u
  have f : zb_fr zb_ZL s u := by rw [← hu]; exact zb_fr_set (zb_fr_set (zb_fr_set (zb_fr_refl _ _) rfl) rfl) rfl
  have hM : zb_MT t n 0 2240 u := by
    refine ⟨⟨hn, by omega, by omega⟩, ?_, ?_, ?_, fun i hi => ?_⟩
    · rw [← hu, zb_set_ne (by omega), zb_set_ne (by omega), zb_set_eq]
    · rw [← hu, zb_set_ne (by omega), zb_set_eq]
    · rw [← hu, zb_set_eq]; rfl
    · rw [← hu, zb_set_ne (by omega), zb_set_ne (by omega), zb_set_ne (by omega)]; exact ht i hi
  refine zb_Wmono (zb_M_goes 10 ss_F 0 0 u (by omega) (by omega) (by unfold ss_F; omega) hM) (fun r hr => ?_)
  exact ⟨hr.1, zb_fr_trans f (zb_fr_mono hr.2.1 (by decide)), hr.2.2.2⟩
/-- the text is laid by -/
theorem zb_lawCopy {n : Nat} (hK : K < 16) (hn : n ≤ 140) (e10 : s.1 187 10 = zb_n K) (e16 : s.1 198 16 = zb_n n) : zb_W (F_Mo_law_b86 ss_F x1 x2 (0 : Int32) s) (fun r => r.1 = zb_n K ∧ zb_fr [187010, 195, 196, 197] s r.2 ∧ r.2.1 187 10 = zb_n (K + 1) ∧ r.2.1 195 K = x1 ∧ r.2.1 196 K = x2 ∧ (∀ k, k ≠ K → r.2.1 195 k = s.1 195 k ∧ r.2.1 196 k = s.1 196 k) ∧ (∀ j, j < n → r.2.1 197 (140 * K + j) = s.1 197 (2240 + j)) ∧ ∀ j, ¬ (140 * K ≤ j ∧ j < 140 * K + n) → r.2.1 197 j = s.1 197 j) := by
  refine zb_for (fun f j u => F_Mo_law_b86 f x1 x2 (zb_n j) u) n (fun j u => zb_fr [197] s u ∧ (∀ i, i < j → u.1 197 (140 * K + i) = s.1 197 (2240 + i)) ∧ ∀ i, ¬ (140 * K ≤ i ∧ i < 140 * K + n) → u.1 197 i = s.1 197 i) ?_ ?_ ss_F 0 s (by omega) (by unfold ss_F; omega) ⟨zb_fr_refl _ _, fun i hi => absurd hi (by omega), fun _ _ => rfl⟩
  · intro f u hu
    obtain ⟨u1, u2, u3⟩ := hu
    have iK : sv_ib (zb_n K) 16 = true := by rw [zb_ib_n (by omega)]; exact hK
    have u10 : u.1 187 10 = zb_n K := (u1.1 187 10 rfl).trans e10
    simp only [F_Mo_law_b86]
    refine zb_Wpos (by decide) ?_
    rw [show (16 : Int32).toNatClampNeg = 16 from rfl, u1.1 198 16 rfl, e16, u10]
    refine zb_Wpos (Int32.le_refl _) (zb_Wpos iK (zb_Wlet ?_))
    rw [zb_n_ix (by omega)]
    have a1 : (ss_setI u 195 K x1).1 187 10 = zb_n K := (zb_set_ne (by omega)).trans u10
    rw [a1]
    refine zb_Wpos iK (zb_Wlet (zb_Wlet ?_))
    rw [zb_n_ix (by omega)]
    have a2 : (ss_setI (ss_setI u 195 K x1) 196 K x2).1 187 10 = zb_n K := (zb_set_ne (by omega)).trans a1
    rw [a2, show zb_n K + (1 : Int32) = zb_n (K + 1) from zb_n_add K 1, zb_set_eq, zb_sub1]
    refine zb_Wsome ⟨rfl, zb_fr_trans (zb_fr_mono u1 (by decide)) (zb_fr_set (zb_fr_set (zb_fr_set (zb_fr_refl _ _) rfl) rfl) rfl), zb_set_eq, ?_, ?_, fun k hk => ⟨?_, ?_⟩, fun j hj => ?_, fun j hj => ?_⟩
    · rw [zb_set_ne (by omega), zb_set_ne (by omega), zb_set_eq]
    · rw [zb_set_ne (by omega), zb_set_eq]
    · rw [zb_set_ne (by omega), zb_set_ne (by omega), zb_set_ne (by omega)]; exact u1.1 195 k rfl
    · rw [zb_set_ne (by omega), zb_set_ne (by omega), zb_set_ne (by omega)]; exact u1.1 196 k rfl
    · rw [zb_set_ne (by omega), zb_set_ne (by omega), zb_set_ne (by omega)]; exact u2 j hj
    · rw [zb_set_ne (by omega), zb_set_ne (by omega), zb_set_ne (by omega)]; exact u3 j hj
  · intro f j u hj hu ih
    obtain ⟨u1, u2, u3⟩ := hu
    simp only [F_Mo_law_b86]
    refine zb_Wpos (by decide) ?_
    rw [show (16 : Int32).toNatClampNeg = 16 from rfl, u1.1 198 16 rfl, e16, u1.1 187 10 rfl, e10]
    refine zb_Wneg (by rw [zb_n_le (by omega) (by omega)]; omega) ?_
    rw [show (2240 : Int32) + zb_n j = zb_n (2240 + j) from zb_n_add 2240 j, show (140 : Int32) * zb_n K + zb_n j = zb_n (140 * K + j) by rw [show (140 : Int32) = zb_n 140 from rfl, zb_n_mul, zb_n_add]]
    refine zb_Wpos (by rw [zb_ib_n (by omega)]; omega) (zb_Wpos (by rw [zb_ib_n (by omega)]; omega) (zb_Wlet (zb_Wlet ?_)))
    rw [zb_n_ix (by omega), zb_n_ix (by omega), show zb_n j + (1 : Int32) = zb_n (j + 1) from zb_n_add j 1]
    refine ih _ ⟨zb_fr_set u1 rfl, fun i hi => ?_, fun i hi => ?_⟩
    · by_cases q : i = j
      · subst q; rw [zb_set_eq]; exact u3 _ (by omega)
      · rw [zb_set_ne (by omega)]; exact u2 i (by omega)
    · rw [zb_set_ne (by omega)]; exact u3 i hi
theorem zb_LM_pre {u : sv_S} {L : List Nat} (h : zb_LM K LO LD LE s) (hf : zb_fr L s u) (hL : ([187010, 195, 196, 197] : List Nat).all (fun x => !L.contains x) = true) (h198 : ∀ k, k < 16 → u.1 198 k = s.1 198 k) : zb_LM K LO LD LE u := by
  refine ⟨h.1, (hf.1 187 10 (zb_no_in hL (x := 187010) (by decide))).trans h.2.1, fun k hk => ?_⟩
  have K16 := h.1
  obtain ⟨a1, a2, a3, n, a4, a5, a6, a7⟩ := h.2.2 k hk
  have e : (fun i => u.1 197 (140 * k + i)) = (fun i => s.1 197 (140 * k + i)) := by funext i; exact hf.1 197 _ (zb_no_in hL (x := 197) (by decide))
  exact ⟨a1, (hf.1 195 k (zb_no_in hL (x := 195) (by decide))).trans a2, (hf.1 196 k (zb_no_in hL (x := 196) (by decide))).trans a3, n, a4, (h198 k (by omega)).trans a5, by rw [e]; exact a6, by rw [e]; exact a7⟩
def zb_ZLC : List Nat := 77003 :: zb_ZX
theorem zb_c_law (h : zb_J s) : zb_m11 (F_X_law x1 x2 s) (F_Mo_law x1 x2) s := by
  obtain ⟨N, A, B, M, O, K, LO, LD, LE, td, Q, R, T, TK, W, WK, Z, ZK, h⟩ := h
  have hj := zb_J_of h
  obtain ⟨hW, hM, hX, hO, hB⟩ := id h
  have hQ := hW.2.1
  have K16 := hM.2.1.1
  obtain ⟨⟨n, m1, m2, m3, m4⟩, oA, oP, oE, oB⟩ := hO
  have t5 : (5 : Int32).toInt = 5 := by decide
  have full : F_Ls_areFull s = some (zb_b (decide (¬ K < 16))) := by
    unfold F_Ls_areFull
    rw [hX.2.1.1.2.1, show (16 : Int32) = zb_n 16 from rfl]
    by_cases q : K < 16
    · rw [if_pos (by rw [zb_n_lt (by omega) (by omega)]; exact q), decide_eq_false (not_not_intro q)]; rfl
    · rw [if_neg (by rw [zb_n_lt (by omega) (by omega)]; exact q), decide_eq_true q]; rfl
  have e16 : ∀ u : sv_S, u.1 187 10 = zb_n K → (u.1 187 10 = (16 : Int32)) = (K = 16) := fun u hu => by rw [hu, show (16 : Int32) = zb_n 16 from rfl]; exact zb_n_eq (by omega) (by omega)
  have xg : F_X_law x1 x2 s = if ¬ (-1 ≤ x1.toInt ∧ x1.toInt ≤ 5) then some ((-1 : Int32), s) else if ¬ (0 ≤ x2.toInt ∧ x2.toInt ≤ 9999) then some ((-2 : Int32), s) else if ¬ ¬ K < 16 then (F_Lt_parses s).bind fun r4 => ss_let (ss_setI r4.2 77 3 (0 : Int32)) fun s5 => if r4.1 = 0 then some ((-10 : Int32) - (s5.1 77 4), s5) else (F_Ls_add x1 x2 s5).bind fun r6 => some (r6.1, r6.2) else some ((-4 : Int32), s) := by
    simp only [F_X_law, full, zb_g_no1, zb_g_day, Option.bind_some, zb_bz]
  have mg : ∀ u, F_Mo_law x1 x2 u = if ¬ (-1 ≤ x1.toInt ∧ x1.toInt ≤ 5) then some ((-1 : Int32), u) else if ¬ (0 ≤ x2.toInt ∧ x2.toInt ≤ 9999) then some ((-2 : Int32), u) else if (u.1 187 10) = (16 : Int32) then some ((-4 : Int32), u) else (F_Mo_goes (16 : Int32) (ss_setI (ss_setI u 198 16 (u.1 187 11)) 187 11 (0 : Int32))).bind fun r5 => if r5.1 = 0 then some ((-10 : Int32) - (r5.2.1 187 25), r5.2) else if sv_ib (16 : Int32) 17 = true then if sv_ib (r5.2.1 187 10) 17 = true then ss_let (ss_setI r5.2 198 (r5.2.1 187 10).toNatClampNeg (r5.2.1 198 (16 : Int32).toNatClampNeg)) fun s6 => F_Mo_law_b86 ss_F x1 x2 (0 : Int32) s6 else none else none := by
    intro u
    simp only [F_Mo_law, zb_h_inL, zb_h_day, zb_m1t, t5, Option.bind_some, zb_bz]
    rfl
  have no : ∀ v : Int32, F_X_law x1 x2 s = some (v, s) → F_Mo_law x1 x2 s = some (v, s) → zb_m11 (F_X_law x1 x2 s) (F_Mo_law x1 x2) s := fun v a b => zb_m11_no hj a b
  by_cases q1 : -1 ≤ x1.toInt ∧ x1.toInt ≤ 5
  rotate_left
  · exact no _ (by rw [xg, if_pos q1]) (by rw [mg, if_pos q1])
  rw [if_neg (not_not_intro q1)] at xg
  simp only [if_neg (not_not_intro q1)] at mg
  by_cases q2 : 0 ≤ x2.toInt ∧ x2.toInt ≤ 9999
  rotate_left
  · exact no _ (by rw [xg, if_pos q2]) (by rw [mg, if_pos q2])
  rw [if_neg (not_not_intro q2)] at xg
  simp only [if_neg (not_not_intro q2)] at mg
  by_cases q3 : K < 16
  rotate_left
  · exact no _ (by rw [xg, if_neg (not_not_intro q3)]) (by rw [mg, if_pos (by rw [e16 s hM.2.1.2.1]; omega)])
  rw [if_pos (not_not_intro q3)] at xg
  obtain ⟨o, o1, o2, rfl⟩ := zb_ai q1
  obtain ⟨d, d1, d2, rfl⟩ := zb_ai q2
  have pc := zb_X_parses (t := fun i => s.1 197 (2240 + i)) hX.2.2.1 m1 m2 (fun i hi => m4 i hi)
  have cok := zb_cls_ok (t := fun i => s.1 197 (2240 + i)) m1 10 0 (by omega)
  -- what the model does behind any state that holds the text
  have md : ∀ u : sv_S, zb_MM N A B M O K LO LD LE td Q R T TK W WK Z ZK u → u.1 187 11 = zb_n n → (∀ i, u.1 197 (2240 + i) = s.1 197 (2240 + i)) → ∀ (P : Int32 × sv_S → Prop), (∀ v : sv_S, zb_fr zb_ZG u v → v.1 187 11 = zb_n 0 → (∀ k, k < 16 → v.1 198 k = u.1 198 k) → v.1 198 16 = zb_n n → ((zb_cls (fun i => s.1 197 (2240 + i)) n 10 0).1 = false → P ((-10 : Int32) - zb_n (zb_cls (fun i => s.1 197 (2240 + i)) n 10 0).2.1, v)) ∧ ((zb_cls (fun i => s.1 197 (2240 + i)) n 10 0).1 = true → ∀ w : sv_S, (∃ y, zb_fr [198] v y ∧ y.1 198 K = zb_n n ∧ (∀ k, k ≠ K → y.1 198 k = v.1 198 k) ∧ zb_fr [187010, 195, 196, 197] y w) → w.1 187 10 = zb_n (K + 1) → w.1 195 K = zb_i o → w.1 196 K = zb_i d → (∀ k, k ≠ K → w.1 195 k = v.1 195 k ∧ w.1 196 k = v.1 196 k) → (∀ j, j < n → w.1 197 (140 * K + j) = s.1 197 (2240 + j)) → (∀ j, ¬ (140 * K ≤ j ∧ j < 140 * K + n) → w.1 197 j = v.1 197 j) → P (zb_n K, w))) → zb_W (F_Mo_law (zb_i o) (zb_i d) u) P := by
    intro u hu u11 u197 P hP
    rw [mg]
    refine zb_Wneg (by rw [e16 u hu.2.1.2.1]; omega) ?_
    rw [u11]
    generalize hs4 : ss_setI (ss_setI u 198 16 (zb_n n)) 187 11 (0 : Int32) = s4
    have f4 : zb_fr zb_ZG u s4 := by rw [← hs4]; exact zb_fr_set (zb_fr_set (zb_fr_refl _ _) rfl) rfl
    have g16 : s4.1 198 16 = zb_n n := by rw [← hs4, zb_set_ne (by omega), zb_set_eq]
    have g11 : s4.1 187 11 = zb_n 0 := by rw [← hs4, zb_set_eq]; rfl
    have g198 : ∀ k, k < 16 → s4.1 198 k = u.1 198 k := fun k hk => by rw [← hs4, zb_set_ne (by omega), zb_set_ne (by omega)]
    refine zb_Wbind2 (zb_goes16 (t := fun i => s.1 197 (2240 + i)) m1 (fun i hi => (f4.1 197 _ rfl).trans (u197 i)) g16) (fun r hr => ?_)
    obtain ⟨r1, r2, r3⟩ := hr
    have fv : zb_fr zb_ZG u r.2 := zb_fr_trans f4 (zb_fr_mono r2 (by decide))
    have v11 : r.2.1 187 11 = zb_n 0 := (r2.1 187 11 rfl).trans g11
    have v198 : ∀ k, k < 16 → r.2.1 198 k = u.1 198 k := fun k hk => (r2.1 198 k rfl).trans (g198 k hk)
    have v16 : r.2.1 198 16 = zb_n n := (r2.1 198 16 rfl).trans g16
    obtain ⟨hF, hT⟩ := hP r.2 fv v11 v198 v16
    rw [r1]
    cases e : (zb_cls (fun i => s.1 197 (2240 + i)) n 10 0).1 with
    | false =>
      refine zb_Wpos rfl (zb_Wsome ?_)
      rw [r3]; exact hF e
    | true =>
      have v10 : r.2.1 187 10 = zb_n K := (fv.1 187 10 rfl).trans hu.2.1.2.1
      refine zb_Wneg (by decide) (zb_Wpos (by decide) ?_)
      rw [v10, show (16 : Int32).toNatClampNeg = 16 from rfl, v16]
      refine zb_Wpos (by rw [zb_ib_n (by omega)]; omega) (zb_Wlet ?_)
      rw [zb_n_ix (by omega)]
      have fy : zb_fr [198] r.2 (ss_setI r.2 198 K (zb_n n)) := zb_fr_set (zb_fr_refl _ _) rfl
      refine zb_Wmono (zb_lawCopy (x1 := zb_i o) (x2 := zb_i d) q3 m1 ((fy.1 187 10 rfl).trans v10) ((zb_set_ne (by omega)).trans v16)) (fun w hw => ?_)
      obtain ⟨w1, w2, w3, w4, w5, w6, w7, w8⟩ := hw
      obtain ⟨wa, wb⟩ := w
      dsimp only at w1 w2 w3 w4 w5 w6 w7 w8
      subst w1
      refine hT e wb ⟨_, fy, zb_set_eq, fun k hk => zb_set_ne (by omega), w2⟩ w3 w4 w5 (fun k hk => ⟨(w6 k hk).1.trans (fy.1 195 k rfl), (w6 k hk).2.trans (fy.1 196 k rfl)⟩) (fun j hj => ?_) (fun j hj => (w8 j hj).trans (fy.1 197 j rfl))
      rw [w7 j hj, fy.1 197 _ rfl, fv.1 197 _ rfl]; exact u197 j
  unfold zb_m11
  rw [xg]
  refine zb_Wbind2 pc (fun r hr => zb_Wlet ?_)
  obtain ⟨r1, r2, r3, r4⟩ := hr
  generalize hs5 : ss_setI r.2 77 3 (0 : Int32) = s5
  have f5 : zb_fr zb_ZLC s s5 := by rw [← hs5]; exact zb_fr_set (zb_fr_mono r2 (by decide)) rfl
  have g3 : s5.1 77 3 = zb_n 0 := by rw [← hs5, zb_set_eq]; rfl
  have g4 : s5.1 77 4 = zb_n (zb_cls (fun i => s.1 197 (2240 + i)) n 10 0).2.1 := by rw [← hs5, zb_set_ne (by omega)]; exact r4
  have X5 := zb_MX_fr hQ hX f5 (by decide) (by decide)
  have M5 := zb_MM_fr hM f5 (by decide)
  rw [r1, g4]
  cases e : (zb_cls (fun i => s.1 197 (2240 + i)) n 10 0).1 with
  | false =>
    refine zb_Wpos rfl (zb_Wsome ⟨zb_keep_fr f5 rfl, ?_⟩)
    dsimp only
    refine md s5 M5 ((f5.1 187 11 rfl).trans m3) (fun i => f5.1 197 _ rfl) _ (fun v fv v11 v198 v16 => ⟨fun _ => ?_, fun z => by rw [e] at z; cases z⟩)
    have LMv := zb_LM_pre M5.2.1 fv (by decide) v198
    refine ⟨rfl, zb_J_of ⟨hW, zb_MM_any M5 fv (by decide) (zb_RM_fr M5.1 fv (by decide)) LMv, zb_MX_fr hQ X5 fv (by decide) (by decide), ⟨⟨0, by omega, (fv.1 77 3 rfl).trans g3, v11, fun i hi => absurd hi (by omega)⟩, zb_JA_fr (zb_JA_fr oA f5 (by decide)) fv (by decide), zb_JP_fr (zb_JP_fr oP f5 (by decide)) fv (by decide), zb_JE_fr (zb_JE_fr oE f5 (by decide)) fv (by decide), zb_JB_fr (zb_JB_fr oB f5 (by decide)) fv (by decide)⟩, ?_⟩, zb_keep_trans (zb_keep_fr f5 rfl) (zb_keep_fr fv rfl)⟩
    rw [fv.2, f5.2]; exact hB
  | true =>
    refine zb_Wneg (by decide) ?_
    have cok := cok e
    obtain ⟨st, lt, c79, ⟨b1, e1, c1, c2, c3, c4, c5⟩, ⟨b2, e2, c6, c7, c8, c9, ca⟩⟩ := r3 e
    have stl : st.length ≤ 140 := by have := lt.1.2.2; omega
    have k77 : ∀ j, j ≠ 3 → s5.1 77 j = r.2.1 77 j := fun j hj => by rw [← hs5, zb_set_ne (by omega)]
    have k79 : ∀ j, s5.1 79 j = r.2.1 79 j := fun j => by rw [← hs5, zb_set_ne (by omega)]
    have k80 : ∀ j, s5.1 80 j = r.2.1 80 j := fun j => by rw [← hs5, zb_set_ne (by omega)]
    have hc4 : s5.2.2.2.2.1 = 4 * K := X5.2.1.1.2.2.1
    refine zb_Wbind2 (zb_Ls_add (x1 := zb_i o) (x2 := zb_i d) q3 X5.2.1.1.2.1 hc4 ((k77 6 (by omega)).trans c1) ((k77 7 (by omega)).trans c2) ((k77 8 (by omega)).trans c6) ((k77 9 (by omega)).trans c7) c3 (by omega) c8 (by omega)) (fun q hq => zb_Wsome ?_)
    obtain ⟨a1, a2, a3, a4, a5, a6, a7, a8, a9, aa, ab, ac, ad, ae, af, ag, ah, ai, aj, ak⟩ := hq
    generalize hl : (zb_cls (fun i => s.1 197 (2240 + i)) n 10 0).2.2 = l at *
    have hfu : ∀ c k, ([81003, 81004, 243] : List Nat).contains (zb_rg c k) = false → q.2.1 c k = s5.1 c k := by
      intro c k hk
      by_cases w : 243 ≤ c
      · rw [zb_rg243 w] at hk; cases hk
      · refine a2 c k (by omega) (fun z => ?_)
        obtain ⟨rfl, z | z⟩ := z
        · subst z; cases hk
        · subst z; cases hk
    have fvv : zb_fr [81003, 81004, 243] s5 (q.2.1, s5.2) := ⟨hfu, rfl⟩
    have Mq : zb_MM N A B M O K LO LD LE td Q R T TK W WK Z ZK q.2 := zb_MM_1 (zb_MM_fr M5 fvv (by decide)) rfl
    have len1 : e1 - b1 = (zb_lst 1 l []).length := by rw [← c5, List.length_take, List.length_drop]; omega
    have len2 : e2 - b2 = (zb_lst 2 l []).length := by rw [← ca, List.length_take, List.length_drop]; omega
    have get1 : ∀ i, i < e1 - b1 → st.getD (b1 + i) 0 = (zb_lst 1 l []).getD i 0 := fun i hi => by
      rw [← c5, List.getD_eq_getElem?_getD, List.getD_eq_getElem?_getD, List.getElem?_take, if_pos hi, List.getElem?_drop]
    have get2 : ∀ i, i < e2 - b2 → st.getD (b2 + i) 0 = (zb_lst 2 l []).getD i 0 := fun i hi => by
      rw [← ca, List.getD_eq_getElem?_getD, List.getD_eq_getElem?_getD, List.getElem?_take, if_pos hi, List.getElem?_drop]
    have LX' : zb_LX (K + 1) (zb_ex LO K o) (zb_ex LD K d) (zb_ex LE K l) q.2 := by
      obtain ⟨p1, p2, p3, ⟨p4, p5, p6, p7⟩, p8⟩ := X5.2.1.1
      refine ⟨⟨by omega, a4, aj, ⟨?_, ?_, ?_, fun i hi => ?_⟩, fun k hk => ?_⟩, ⟨-1, a3, by omega, by omega, fun z => by omega⟩⟩
      · rw [a2 85 0 (by omega) (by omega)]; exact p4
      · rw [a2 85 1 (by omega) (by omega)]; exact p5
      · rw [a2 85 2 (by omega) (by omega)]; exact p6
      · rw [a2 84 i (by omega) (by omega)]; exact p7 i hi
      · by_cases ek : k = K
        · subst ek
          rw [zb_ex_eq, zb_ex_eq, zb_ex_eq]
          refine ⟨⟨o1, o2, d1, d2⟩, cok, ad, a5, a6, a7, ag, fun i hi => ?_, by rw [ah, len1], fun i hi => ?_, by rw [ai, len2], fun i hi => ?_⟩
          · rw [a8 i, k79]; exact c79 i hi
          · rw [a9 i (by omega), k80, lt.2.2.2.2.2 _ (by omega)]; exact get1 i (by omega)
          · rw [aa i (by omega), k80, lt.2.2.2.2.2 _ (by omega)]; exact get2 i (by omega)
        · have hk' : k < K := by omega
          rw [zb_ex_lt hk', zb_ex_lt hk', zb_ex_lt hk']
          obtain ⟨g1, g2, g3', g4', g5, g6, g7, g8, g9, ga, gb, gc⟩ := p8 k hk'
          refine ⟨g1, g2, (ac k (by omega)).trans g3', ?_, ?_, ?_, ?_, fun i hi => ?_, ?_, fun i hi => ?_, ?_, fun i hi => ?_⟩
          · rw [a2 _ _ (by omega) (by omega)]; exact g4'
          · rw [a2 _ _ (by omega) (by omega)]; exact g5
          · rw [a2 _ _ (by omega) (by omega)]; exact g6
          · rw [af _ (by omega) (by omega)]; exact g7
          · rw [a2 _ _ (by omega) (by omega)]; exact g8 i hi
          · rw [af _ (by omega) (by omega)]; exact g9
          · rw [a2 _ _ (by omega) (by omega)]; exact ga i hi
          · rw [af _ (by omega) (by omega)]; exact gb
          · rw [a2 _ _ (by omega) (by omega)]; exact gc i hi
    have RXq : zb_RX N A B M O q.2 := by
      have := zb_RX_fr X5.1 fvv (by decide)
      unfold zb_RX zb_gd at this ⊢; exact this
    have Xq : zb_MX N A B M O (K + 1) (zb_ex LO K o) (zb_ex LD K d) (zb_ex LE K l) td Q R T TK W WK Z ZK q.2 := zb_MX_any hQ X5 hfu (by decide) (by decide) RXq LX'
    have kq : zb_keep s q.2 := by
      have k5 := zb_keep_fr f5 (by decide)
      exact ⟨fun k => (a2 0 k (by omega) (by omega)).trans (k5.1 k), ae.trans k5.2⟩
    refine ⟨kq, ?_⟩
    dsimp only
    have q11 : q.2.1 187 11 = zb_n n := (a2 187 11 (by omega) (by omega)).trans ((f5.1 187 11 rfl).trans m3)
    refine md q.2 Mq q11 (fun i => (a2 197 _ (by omega) (by omega)).trans (f5.1 197 _ rfl)) _ (fun v fv v11 v198 v16 => ⟨fun z => (by rw [e] at z; cases z), fun _ w hy w10 w195 w196 wo wn wl => ?_⟩)
    obtain ⟨y, fy, y1, y2, fw⟩ := hy
    -- one frame for all of the model's
    have fall : zb_fr (zb_ZG ++ [187010, 195, 196, 197]) q.2 w := zb_fr_trans (zb_fr_mono fv (by decide)) (zb_fr_trans (zb_fr_mono fy (by decide)) (zb_fr_mono fw (by decide)))
    have w198 : ∀ k, w.1 198 k = y.1 198 k := fun k => fw.1 198 k rfl
    have LM' : zb_LM (K + 1) (zb_ex LO K o) (zb_ex LD K d) (zb_ex LE K l) w := by
      refine ⟨by omega, w10, fun k hk => ?_⟩
      by_cases ek : k = K
      · subst ek
        rw [zb_ex_eq, zb_ex_eq, zb_ex_eq]
        have ex : zb_cls (fun i => w.1 197 (140 * k + i)) n 10 0 = zb_cls (fun i => s.1 197 (2240 + i)) n 10 0 := zb_cls_ext (fun i hi => wn i hi) 10 0
        refine ⟨⟨o1, o2, d1, d2⟩, w195, w196, n, m1, by rw [w198]; exact y1, by rw [ex]; exact e, by rw [ex]; exact hl⟩
      · have hk' : k < K := by omega
        rw [zb_ex_lt hk', zb_ex_lt hk', zb_ex_lt hk']
        obtain ⟨g1, g2, g3', n', g4', g5, g6, g7⟩ := Mq.2.1.2.2 k hk'
        have ex : ∀ j a, zb_cls (fun i => w.1 197 (140 * k + i)) n' j a = zb_cls (fun i => q.2.1 197 (140 * k + i)) n' j a := fun j a => zb_cls_ext (fun i hi => (wl _ (by omega)).trans (fv.1 197 _ rfl)) j a
        refine ⟨g1, ?_, ?_, n', g4', ?_, by rw [ex]; exact g6, by rw [ex]; exact g7⟩
        · rw [(wo k ek).1, fv.1 195 k rfl]; exact g2
        · rw [(wo k ek).2, fv.1 196 k rfl]; exact g3'
        · rw [w198, y2 k ek, v198 k (by omega)]; exact g5
    have W1 : zb_MW N A B M O (K + 1) (zb_ex LO K o) (zb_ex LD K d) (zb_ex LE K l) td Q R T TK W WK Z ZK := by unfold zb_MW at hW ⊢; exact hW
    refine ⟨a1.symm, zb_J_of ⟨W1, zb_MM_any Mq fall (by decide) (zb_RM_fr Mq.1 fall (by decide)) LM', zb_MX_fr hQ Xq fall (by decide) (by decide), ⟨⟨0, by omega, ?_, ?_, fun i hi => absurd hi (by omega)⟩, ?_, ?_, ?_, ?_⟩, ?_⟩, zb_keep_trans kq (zb_keep_fr fall rfl)⟩
    · rw [fall.1 77 3 rfl, a2 77 3 (by omega) (by omega)]; exact g3
    · rw [fw.1 187 11 rfl, fy.1 187 11 rfl]; exact v11
    · have := zb_JA_fr (zb_JA_fr oA f5 (by decide)) fvv (by decide)
      have a : zb_JA q.2 := by unfold zb_JA at this ⊢; exact this
      exact zb_JA_fr a fall (by decide)
    · have a : zb_JP q.2 := by
        intro t ht
        obtain ⟨o', n', b1', b2', b3', b4', b5', b6', b7', b8', b9'⟩ := zb_JP_fr oP f5 (by decide) t ht
        refine ⟨o', n', b1', b2', b3', b4', (a2 178 t (by omega) (by omega)).trans b5', (a2 239 t (by omega) (by omega)).trans b6', (a2 179 t (by omega) (by omega)).trans b7', (a2 240 t (by omega) (by omega)).trans b8', fun i hi => ?_⟩
        rw [ab _ _ (by omega), ab _ _ (by omega)]; exact b9' i hi
      exact zb_JP_fr a fall (by decide)
    · have := zb_JE_fr (zb_JE_fr oE f5 (by decide)) fvv (by decide)
      have a : zb_JE q.2 := by unfold zb_JE at this ⊢; exact this
      exact zb_JE_fr a fall (by decide)
    · have := zb_JB_fr (zb_JB_fr oB f5 (by decide)) fvv (by decide)
      have a : zb_JB q.2 := by unfold zb_JB at this ⊢; exact this
      exact zb_JB_fr a fall (by decide)
    · rw [fall.2, ak, f5.2]; omega
end LWC
