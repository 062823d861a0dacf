/-! the class's texts -/
section XT
variable {t : Nat → Int32} {n a : Nat} {l : List zb_EF} {s : sv_S} {st : List Int32}
theorem zb_LT_fr {M : List Nat} {u : sv_S} (h : zb_LT t n a st s) (hf : zb_fr M s u) (hM : [77003, 77004, 77005, 78, 80].all (fun x => !M.contains x) = true) : zb_LT t n a st u := by
  have k : ∀ x, x ∈ [77003, 77004, 77005, 78, 80] → M.contains x = false := fun x hx => by have := List.all_eq_true.mp hM x hx; simpa using this
  refine ⟨h.1, ?_, ?_, ?_, fun i hi => ?_, fun i hi => ?_⟩
  · rw [hf.1 77 3 (k 77003 (by decide))]; exact h.2.1
  · rw [hf.1 77 4 (k 77004 (by decide))]; exact h.2.2.1
  · rw [hf.1 77 5 (k 77005 (by decide))]; exact h.2.2.2.1
  · rw [hf.1 78 i (k 78 (by decide))]; exact h.2.2.2.2.1 i hi
  · rw [hf.1 80 i (k 80 (by decide))]; exact h.2.2.2.2.2 i hi
theorem zb_wgo_rg {t : Nat → Int32} {n a : Nat} : ∀ (ws : List (List Nat)) (i far : Nat), (∀ w, w ∈ ws → ∀ c, c ∈ w → c ≤ 127) → i + ws.length = 11 → a ≤ far → far ≤ n → (-1 ≤ (zb_wgo t n a ws i far).1 ∧ (zb_wgo t n a ws i far).1 ≤ 10 ∧ a ≤ (zb_wgo t n a ws i far).2 ∧ (zb_wgo t n a ws i far).2 ≤ n)
  | [], i, far, _, _, h1, h2 => by simp only [zb_wgo]; omega
  | w :: ws, i, far, hw, hi, h1, h2 => by
    have lk := zb_lk_le (t := t) (n := n) w a (hw w (by simp)) (by omega)
    rw [List.length_cons] at hi
    simp only [zb_wgo]
    by_cases q : zb_lk t n a w = w.length
    · rw [if_pos q]; dsimp only; omega
    · rw [if_neg q]
      exact zb_wgo_rg ws (i + 1) _ (fun v hv => hw v (by simp [hv])) (by omega) (by omega) (by omega)
theorem zb_wd_rg (ha : a ≤ n) : -1 ≤ (zb_wd t n a).1 ∧ (zb_wd t n a).1 ≤ 10 ∧ a ≤ (zb_wd t n a).2 ∧ (zb_wd t n a).2 ≤ n := zb_wgo_rg zb_ws 0 a (by decide) (by decide) (Nat.le_refl _) ha

theorem zb_X_xsame {u : sv_S} (h : zb_pre t n a l st s u) : zb_W (ss_let (ss_setI u 77 6 (u.1 77 5)) fun s13 =>
    (F_Lt_takes (32 : Int32) s13).bind fun r14 =>
    if r14.1 = 0 then
      ss_let (ss_setI r14.2 77 7 (r14.2.1 77 5)) fun s15 =>
      some ((0 : Int32), s15)
    else
    (F_Lt_either (0 : Int32) r14.2).bind fun r16 =>
    if r16.1 = 0 then
      ss_let (ss_setI r16.2 77 7 (r16.2.1 77 5)) fun s17 =>
      some ((0 : Int32), s17)
    else
    ss_let (ss_setI r16.2 77 7 (r16.2.1 77 5)) fun s18 =>
    some ((1 : Int32), s18)) (zb_CX t n l s (zb_xp t n 1 a)) := by
  have hb := h.1.1
  unfold zb_xp zb_sp
  refine zb_Wlet ?_
  rw [h.1.2.2.2.1]
  simp only [zb_lit]
  have f0 : zb_fr zb_ZX s (ss_setI u 77 6 (zb_n st.length)) := zb_fr_set (zb_fr_mono h.2.1 (by decide)) rfl
  have L0 : zb_LT t n a st (ss_setI u 77 6 (zb_n st.length)) := zb_LT_fr (M := [77006]) h.1 (zb_fr_set (zb_fr_refl _ _) rfl) (by decide)
  have e6 : (ss_setI u 77 6 (zb_n st.length)).1 77 6 = zb_n st.length := zb_set_eq
  have f8 : zb_fr [77004, 77006] s (ss_setI u 77 6 (zb_n st.length)) := zb_fr_set (zb_fr_mono h.2.1 (by decide)) rfl
  generalize ss_setI u 77 6 (zb_n st.length) = u0 at f0 L0 e6 f8 ⊢
  rw [zb_Lt_takes L0 (by omega)]
  refine zb_Wbind (zb_Wsome ?_)
  by_cases q : zb_nc t n a = zb_n 32
  · have hlt := zb_nc_lt (by omega) q
    rw [if_pos q, if_pos q]
    refine zb_Wneg zb_10 ?_
    refine zb_Wbind2 (zb_Lt_exp (zb_LT_at (b := a + 1) L0 (by omega) (by omega))) (fun r hr => ?_)
    obtain ⟨r1, r2, r3⟩ := hr
    have f1 : zb_fr zb_ZX s r.2 := zb_fr_trans (zb_fr_set f0 rfl) (zb_fr_mono r3 (by decide))
    have f9 : zb_fr [77004, 77006, 77005, 80] s r.2 := zb_fr_trans (zb_fr_set (zb_fr_mono f8 (by decide)) rfl) (zb_fr_mono r3 (by decide))
    have e7 : r.2.1 77 6 = zb_n st.length := by rw [r3.1 77 6 rfl, zb_set_ne (by omega)]; exact e6
    rw [r1, r2.2.2.2.1]
    simp only [zb_b0]
    cases hp : (zb_exp t n (a + 1)).1 with
    | false => exact zb_Wpos rfl (zb_Wlet (zb_Wsome ⟨rfl, zb_fr_set f1 rfl, fun q => (by cases q), fun _ => by rw [zb_set_ne (by omega)]; exact r2.2.2.1⟩))
    | true =>
      refine zb_Wneg (by decide) (zb_Wlet (zb_Wsome ⟨rfl, zb_fr_set f1 rfl, fun _ => ?_, fun q => by cases q⟩))
      have L2 : zb_LT t n (zb_exp t n (a + 1)).2.1 (st ++ (zb_exp t n (a + 1)).2.2) (ss_setI r.2 77 7 (zb_n (st ++ (zb_exp t n (a + 1)).2.2).length)) := zb_LT_fr (M := [77007]) r2 (zb_fr_set (zb_fr_refl _ _) rfl) (by decide)
      have f10 : zb_fr [77004, 77006, 77007, 77005, 80] s (ss_setI r.2 77 7 (zb_n (st ++ (zb_exp t n (a + 1)).2.2).length)) := zb_fr_set (zb_fr_mono f9 (by decide)) rfl
      have V2 : ∀ k, k < 40 → (ss_setI r.2 77 7 (zb_n (st ++ (zb_exp t n (a + 1)).2.2).length)).1 79 k = zb_i (zb_apl (l ++ [(1, 0, 0, (zb_exp t n (a + 1)).2.2)]) (fun _ => -1) k) := by
        intro k hk
        rw [f10.1 79 k rfl, zb_apl_app]
        exact h.2.2.1 k hk
      have R1 : zb_rng 6 7 (st ++ (zb_exp t n (a + 1)).2.2) (zb_lst 1 (l ++ [(1, 0, 0, (zb_exp t n (a + 1)).2.2)]) []) (ss_setI r.2 77 7 (zb_n (st ++ (zb_exp t n (a + 1)).2.2).length)) := by
        refine ⟨st.length, (st ++ (zb_exp t n (a + 1)).2.2).length, ?_, zb_set_eq, by rw [List.length_append]; omega, Nat.le_refl _, ?_⟩
        · rw [zb_set_ne (by omega)]; exact e7
        · rw [zb_lst_app, if_pos rfl, List.drop_left, List.length_append, Nat.add_sub_cancel_left, List.take_length]
      have R2 : zb_rng 8 9 (st ++ (zb_exp t n (a + 1)).2.2) (zb_lst 2 (l ++ [(1, 0, 0, (zb_exp t n (a + 1)).2.2)]) []) (ss_setI r.2 77 7 (zb_n (st ++ (zb_exp t n (a + 1)).2.2).length)) := by
        rw [zb_lst_app, if_neg (by simp)]
        exact zb_rng_app (zb_rng_fr h.2.2.2.2 f10 rfl rfl)
      exact ⟨st ++ (zb_exp t n (a + 1)).2.2, L2, V2, R1, R2⟩
  · rw [if_neg q, if_neg q]
    refine zb_Wpos rfl (zb_Wlet (zb_Wsome ⟨rfl, zb_fr_set f0 rfl, fun q => (by cases q), fun _ => ?_⟩))
    rw [zb_set_ne (by omega)]; exact L0.2.2.1
theorem zb_X_xexcuse {u : sv_S} (h : zb_pre t n a l st s u) : zb_W (ss_let (ss_setI u 77 8 (u.1 77 5)) fun s13 =>
    (F_Lt_takes (32 : Int32) s13).bind fun r14 =>
    if r14.1 = 0 then
      ss_let (ss_setI r14.2 77 9 (r14.2.1 77 5)) fun s15 =>
      some ((0 : Int32), s15)
    else
    (F_Lt_either (0 : Int32) r14.2).bind fun r16 =>
    if r16.1 = 0 then
      ss_let (ss_setI r16.2 77 9 (r16.2.1 77 5)) fun s17 =>
      some ((0 : Int32), s17)
    else
    ss_let (ss_setI r16.2 77 9 (r16.2.1 77 5)) fun s18 =>
    some ((1 : Int32), s18)) (zb_CX t n l s (zb_xp t n 2 a)) := by
  have hb := h.1.1
  unfold zb_xp zb_sp
  refine zb_Wlet ?_
  rw [h.1.2.2.2.1]
  simp only [zb_lit]
  have f0 : zb_fr zb_ZX s (ss_setI u 77 8 (zb_n st.length)) := zb_fr_set (zb_fr_mono h.2.1 (by decide)) rfl
  have L0 : zb_LT t n a st (ss_setI u 77 8 (zb_n st.length)) := zb_LT_fr (M := [77008]) h.1 (zb_fr_set (zb_fr_refl _ _) rfl) (by decide)
  have e6 : (ss_setI u 77 8 (zb_n st.length)).1 77 8 = zb_n st.length := zb_set_eq
  have f8 : zb_fr [77004, 77008] s (ss_setI u 77 8 (zb_n st.length)) := zb_fr_set (zb_fr_mono h.2.1 (by decide)) rfl
  generalize ss_setI u 77 8 (zb_n st.length) = u0 at f0 L0 e6 f8 ⊢
  rw [zb_Lt_takes L0 (by omega)]
  refine zb_Wbind (zb_Wsome ?_)
  by_cases q : zb_nc t n a = zb_n 32
  · have hlt := zb_nc_lt (by omega) q
    rw [if_pos q, if_pos q]
    refine zb_Wneg zb_10 ?_
    refine zb_Wbind2 (zb_Lt_exp (zb_LT_at (b := a + 1) L0 (by omega) (by omega))) (fun r hr => ?_)
    obtain ⟨r1, r2, r3⟩ := hr
    have f1 : zb_fr zb_ZX s r.2 := zb_fr_trans (zb_fr_set f0 rfl) (zb_fr_mono r3 (by decide))
    have f9 : zb_fr [77004, 77008, 77005, 80] s r.2 := zb_fr_trans (zb_fr_set (zb_fr_mono f8 (by decide)) rfl) (zb_fr_mono r3 (by decide))
    have e7 : r.2.1 77 8 = zb_n st.length := by rw [r3.1 77 8 rfl, zb_set_ne (by omega)]; exact e6
    rw [r1, r2.2.2.2.1]
    simp only [zb_b0]
    cases hp : (zb_exp t n (a + 1)).1 with
    | false => exact zb_Wpos rfl (zb_Wlet (zb_Wsome ⟨rfl, zb_fr_set f1 rfl, fun q => (by cases q), fun _ => by rw [zb_set_ne (by omega)]; exact r2.2.2.1⟩))
    | true =>
      refine zb_Wneg (by decide) (zb_Wlet (zb_Wsome ⟨rfl, zb_fr_set f1 rfl, fun _ => ?_, fun q => by cases q⟩))
      have L2 : zb_LT t n (zb_exp t n (a + 1)).2.1 (st ++ (zb_exp t n (a + 1)).2.2) (ss_setI r.2 77 9 (zb_n (st ++ (zb_exp t n (a + 1)).2.2).length)) := zb_LT_fr (M := [77009]) r2 (zb_fr_set (zb_fr_refl _ _) rfl) (by decide)
      have f10 : zb_fr [77004, 77008, 77009, 77005, 80] s (ss_setI r.2 77 9 (zb_n (st ++ (zb_exp t n (a + 1)).2.2).length)) := zb_fr_set (zb_fr_mono f9 (by decide)) rfl
      have V2 : ∀ k, k < 40 → (ss_setI r.2 77 9 (zb_n (st ++ (zb_exp t n (a + 1)).2.2).length)).1 79 k = zb_i (zb_apl (l ++ [(2, 0, 0, (zb_exp t n (a + 1)).2.2)]) (fun _ => -1) k) := by
        intro k hk
        rw [f10.1 79 k rfl, zb_apl_app]
        exact h.2.2.1 k hk
      have R1 : zb_rng 8 9 (st ++ (zb_exp t n (a + 1)).2.2) (zb_lst 2 (l ++ [(2, 0, 0, (zb_exp t n (a + 1)).2.2)]) []) (ss_setI r.2 77 9 (zb_n (st ++ (zb_exp t n (a + 1)).2.2).length)) := by
        refine ⟨st.length, (st ++ (zb_exp t n (a + 1)).2.2).length, ?_, zb_set_eq, by rw [List.length_append]; omega, Nat.le_refl _, ?_⟩
        · rw [zb_set_ne (by omega)]; exact e7
        · rw [zb_lst_app, if_pos rfl, List.drop_left, List.length_append, Nat.add_sub_cancel_left, List.take_length]
      have R2 : zb_rng 6 7 (st ++ (zb_exp t n (a + 1)).2.2) (zb_lst 1 (l ++ [(2, 0, 0, (zb_exp t n (a + 1)).2.2)]) []) (ss_setI r.2 77 9 (zb_n (st ++ (zb_exp t n (a + 1)).2.2).length)) := by
        rw [zb_lst_app, if_neg (by simp)]
        exact zb_rng_app (zb_rng_fr h.2.2.2.1 f10 rfl rfl)
      exact ⟨st ++ (zb_exp t n (a + 1)).2.2, L2, V2, R2, R1⟩
  · rw [if_neg q, if_neg q]
    refine zb_Wpos rfl (zb_Wlet (zb_Wsome ⟨rfl, zb_fr_set f0 rfl, fun q => (by cases q), fun _ => ?_⟩))
    rw [zb_set_ne (by omega)]; exact L0.2.2.1
theorem zb_X_clause (hS : zb_SS s) (h : zb_LC t n a l s) : zb_W (F_Lt_clause s) (zb_CX t n l s (zb_cl t n a)) := by
  obtain ⟨st, h1, h2, h3, h4⟩ := h
  have hb := h1.1
  unfold F_Lt_clause zb_cl
  rw [zb_Lt_word hS h1]
  refine zb_Wbind (zb_Wsome ?_)
  obtain ⟨w1, w2, w3, w4⟩ := zb_wd_rg (t := t) (n := n) (a := a) (by omega)
  generalize zb_wd t n a = w at *
  obtain ⟨i, b⟩ := w
  dsimp only at w1 w2 w3 w4 ⊢
  have hp : zb_pre t n b l st s (ss_setI s 77 4 (zb_n b)) := ⟨zb_LT_at h1 w4 (by omega), zb_fr_set (zb_fr_refl _ _) rfl, h2, h3, h4⟩
  generalize ss_setI s 77 4 (zb_n b) = u at hp ⊢
  unfold zb_bw
  dsimp only
  have E : ∀ (c : Int32) (k : Int), c = zb_i k → -1 ≤ k → k ≤ 10 → ((zb_i i = c) = (i = k)) := fun c k hc k1 k2 => by rw [hc]; exact zb_i_eq (by omega) (by omega) (by omega) (by omega)
  by_cases cm1 : i = -1
  · rw [if_pos cm1]
    refine zb_Wpos (by rw [cm1]; exact zb_m1.symm) ?_
    exact zb_Wsome (zb_pre_no hp)
  rw [if_neg cm1]
  refine zb_Wneg (fun z => cm1 ((E (-1) (-1) zb_m1 (by omega) (by omega)).mp z)) ?_
  by_cases c0 : i = 0
  · rw [if_pos c0]
    refine zb_Wpos (by rw [c0]; exact (zb_n_i 0).symm) ?_
    exact zb_X_bl (zb_X_good hp)
  rw [if_neg c0]
  refine zb_Wneg (fun z => c0 ((E (0) (0) (zb_n_i 0) (by omega) (by omega)).mp z)) ?_
  by_cases c6 : i = 6
  · rw [if_pos c6]
    refine zb_Wpos (by rw [c6]; exact (zb_n_i 6).symm) ?_
    refine zb_Wpos (by decide) (zb_Wlet (zb_Wsome ?_))
    have e6 : (6 : Int32).toNatClampNeg = 6 := zb_n_ix (k := 6) (by omega)
    rw [e6, show (1 : Int32) = zb_i 1 from zb_n_i 1]
    exact zb_pre_set hp (by omega)
  rw [if_neg c6]
  refine zb_Wneg (fun z => c6 ((E (6) (6) (zb_n_i 6) (by omega) (by omega)).mp z)) ?_
  by_cases c7 : i = 7
  · rw [if_pos c7]
    refine zb_Wpos (by rw [c7]; exact (zb_n_i 7).symm) ?_
    refine zb_Wpos (by decide) (zb_Wlet (zb_Wsome ?_))
    have e6 : (6 : Int32).toNatClampNeg = 6 := zb_n_ix (k := 6) (by omega)
    rw [e6, show (0 : Int32) = zb_i 0 from zb_n_i 0]
    exact zb_pre_set hp (by omega)
  rw [if_neg c7]
  refine zb_Wneg (fun z => c7 ((E (7) (7) (zb_n_i 7) (by omega) (by omega)).mp z)) ?_
  by_cases c8 : i = 8
  · rw [if_pos c8]
    refine zb_Wpos (by rw [c8]; exact (zb_n_i 8).symm) ?_
    exact zb_X_bl (zb_X_most hp)
  rw [if_neg c8]
  refine zb_Wneg (fun z => c8 ((E (8) (8) (zb_n_i 8) (by omega) (by omega)).mp z)) ?_
  by_cases c9 : i = 9
  · rw [if_pos c9]
    refine zb_Wpos (by rw [c9]; exact (zb_n_i 9).symm) ?_
    exact zb_X_xsame hp
  rw [if_neg c9]
  refine zb_Wneg (fun z => c9 ((E (9) (9) (zb_n_i 9) (by omega) (by omega)).mp z)) ?_
  by_cases c10 : i = 10
  · rw [if_pos c10]
    refine zb_Wpos (by rw [c10]; exact (zb_n_i 10).symm) ?_
    exact zb_X_xexcuse hp
  rw [if_neg c10]
  refine zb_Wneg (fun z => c10 ((E (10) (10) (zb_n_i 10) (by omega) (by omega)).mp z)) ?_
  have e : zb_i i = zb_n i.toNat := by rw [zb_n_i, Int.toNat_of_nonneg (by omega)]
  rw [e]
  exact zb_X_sp (K := fun w => (F_Lt_numberInto (zb_n i.toNat) w).bind fun r28 => if r28.1 = 0 then some ((0 : Int32), r28.2) else some ((1 : Int32), r28.2)) hp (fun v _ hv => zb_X_wrap (zb_X_nIn (by omega) hv))
theorem zb_X_parses_b6 : ∀ (k f c a : Nat) (l : List zb_EF) (s : sv_S), c + k = 10 → 1 ≤ k → k < f → zb_SS s → zb_LC t n a l s → zb_W (F_Lt_parses_b6 f (zb_n c) s) (fun r => r.1 = zb_b (zb_cls t n k a).1 ∧ zb_fr zb_ZX s r.2 ∧ ((zb_cls t n k a).1 = true → zb_LC t n n (l ++ (zb_cls t n k a).2.2) r.2) ∧ r.2.1 77 4 = zb_n (zb_cls t n k a).2.1) := by
  intro k
  induction k with
  | zero => intro f c a l s _ h; omega
  | succ k ih =>
    intro f c a l s hc hk hf hS h
    obtain ⟨f, rfl⟩ : ∃ g, f = g + 1 := ⟨f - 1, by omega⟩
    simp only [F_Lt_parses_b6]
    refine zb_Wneg (by first | omega | (simp (disch := omega) only [zb_lit, zb_n_add, zb_n_mul, zb_n_ix, zb_n_lt, zb_n_le, zb_n_eq, zb_ib_n] <;> omega)) ?_
    refine zb_Wbind2 (zb_X_clause hS h) (fun r hr => ?_)
    generalize hP : zb_cls t n (k + 1) a = P
    simp only [zb_cls] at hP
    obtain ⟨r1, r2, r3, r4⟩ := hr
    simp only [zb_lit]
    rw [r1]
    simp only [zb_b0]
    cases hp : (zb_cl t n a).1 with
    | false =>
      rw [hp, if_neg (by decide)] at hP
      rw [← hP]
      exact zb_Wpos rfl (zb_Wsome ⟨rfl, r2, fun q => (by cases q), r4 hp⟩)
    | true =>
      rw [hp, if_pos rfl] at hP
      have m1 := r3 hp
      obtain ⟨st, m2, m3⟩ := id m1
      have mb := m2.1
      refine zb_Wneg (by decide) ?_
      rw [m2.2.2.1, m2.2.1]
      by_cases q : (zb_cl t n a).2.1 = n
      · rw [if_pos q] at hP
        rw [← hP]
        rw [q] at m1
        exact zb_Wpos (by rw [q]) (zb_Wsome ⟨rfl, r2, fun _ => m1, by rw [m2.2.2.1, q]⟩)
      · rw [if_neg q] at hP
        refine zb_Wneg (by rw [zb_n_eq (by omega) (by omega)]; exact q) ?_
        by_cases k0 : k = 0
        · rw [if_pos k0] at hP
          rw [← hP]
          exact zb_Wpos (by rw [show c = 9 by omega]) (zb_Wsome ⟨rfl, r2, fun q => (by cases q), m2.2.2.1⟩)
        · rw [if_neg k0] at hP
          refine zb_Wneg (by rw [zb_n_eq (by omega) (by omega)]; omega) ?_
          rw [zb_Lt_takes m2 (by omega)]
          refine zb_Wbind (zb_Wsome ?_)
          by_cases q2 : zb_nc t n (zb_cl t n a).2.1 = zb_n 59
          · have hlt := zb_nc_lt (by omega) q2
            rw [if_pos q2] at hP
            rw [if_pos q2]
            refine zb_Wneg zb_10 (zb_Wlet ?_)
            rw [zb_n_add]
            have fz : zb_fr zb_ZX s (ss_setI r.2 77 4 (zb_n ((zb_cl t n a).2.1 + 1))) := zb_fr_set r2 rfl
            have LC1 : zb_LC t n ((zb_cl t n a).2.1 + 1) (l ++ [(zb_cl t n a).2.2]) (ss_setI r.2 77 4 (zb_n ((zb_cl t n a).2.1 + 1))) := by
              have f4 : zb_fr [77004] r.2 (ss_setI r.2 77 4 (zb_n ((zb_cl t n a).2.1 + 1))) := zb_fr_set (zb_fr_refl _ _) rfl
              exact ⟨st, zb_LT_at m2 (by omega) (by omega), fun j hj => (f4.1 79 j rfl).trans (m3.1 j hj), zb_rng_fr m3.2.1 f4 rfl rfl, zb_rng_fr m3.2.2 f4 rfl rfl⟩
            refine zb_Wmono (ih f (c + 1) ((zb_cl t n a).2.1 + 1) _ _ (by omega) (by omega) (by omega) (zb_SS_fr hS fz (by decide)) LC1) (fun v hv => ?_)
            obtain ⟨v1, v2, v3, v4⟩ := hv
            rw [← hP]
            refine ⟨v1, zb_fr_trans fz v2, fun w => ?_, v4⟩
            have := v3 w
            rw [List.append_assoc] at this
            exact this
          · rw [if_neg q2] at hP
            rw [if_neg q2, ← hP]
            exact zb_Wpos rfl (zb_Wsome ⟨rfl, r2, fun q => (by cases q), m2.2.2.1⟩)
/-- filling a row of ints -/
theorem zb_fillI {c m : Nat} {x : Int32} (hc : ∀ f, ss_N f c = m) (hm : m ≤ 8000) (hr : ∀ k, zb_rg c k = c) : zb_W (F_JA_fillI c x s) (fun r => zb_fr [c] s r ∧ ∀ k, k < m → r.1 c k = x) := by
  unfold F_JA_fillI
  refine zb_Wlet ?_
  rw [hc]
  show zb_W (F_JA_fillI_b5 ss_F c x (zb_n 0) (zb_n m) s) _
  refine zb_for (fun f k s => F_JA_fillI_b5 f c x (zb_n k) (zb_n m) s) m (fun k u => zb_fr [c] s u ∧ ∀ j, j < k → u.1 c j = x) ?_ ?_ ss_F 0 s (by omega) (by unfold ss_F; omega) ⟨zb_fr_refl _ _, fun j hj => absurd hj (by omega)⟩
  · intro f u hI
    simp only [F_JA_fillI_b5]
    exact zb_Wpos (Int32.le_refl _) (zb_Wsome hI)
  · intro f k u hk hI ih
    simp only [F_JA_fillI_b5]
    rw [hc]
    refine zb_Wneg (by first | omega | (simp (disch := omega) only [zb_lit, zb_n_add, zb_n_mul, zb_n_ix, zb_n_lt, zb_n_le, zb_n_eq, zb_ib_n] <;> omega)) ?_
    refine zb_Wpos (by first | omega | (simp (disch := omega) only [zb_lit, zb_n_add, zb_n_mul, zb_n_ix, zb_n_lt, zb_n_le, zb_n_eq, zb_ib_n] <;> omega)) ?_
    refine zb_Wlet (zb_Wlet ?_)
    simp (disch := omega) only [zb_lit, zb_n_add, zb_n_mul, zb_n_ix, zb_n_lt, zb_n_le, zb_n_eq, zb_ib_n]
    refine ih _ ⟨zb_fr_set hI.1 (by rw [hr]; simp), fun j hj => ?_⟩
    by_cases q : j = k
    · subst q; rw [zb_set_eq]
    · rw [zb_set_ne (by omega)]; exact hI.2 j (by omega)
/-- the class reads its text -/
theorem zb_X_parses (hS : zb_SS s) (hn : n ≤ 140) (h3 : s.1 77 3 = zb_n n) (h78 : ∀ i, i < n → s.1 78 i = t i) : zb_W (F_Lt_parses s) (fun r => r.1 = zb_b (zb_cls t n 10 0).1 ∧ zb_fr zb_ZX s r.2 ∧ ((zb_cls t n 10 0).1 = true → zb_LC t n n (zb_cls t n 10 0).2.2 r.2) ∧ r.2.1 77 4 = zb_n (zb_cls t n 10 0).2.1) := by
  unfold F_Lt_parses F_Lt_begin
  refine zb_Wbind (zb_Wlet (zb_Wlet (zb_Wlet (zb_Wlet (zb_Wlet (zb_Wlet ?_))))))
  have f0 : zb_fr zb_ZX s (ss_setI (ss_setI (ss_setI (ss_setI (ss_setI (ss_setI s 77 4 (0 : Int32)) 77 5 (0 : Int32)) 77 6 (0 : Int32)) 77 7 (0 : Int32)) 77 8 (0 : Int32)) 77 9 (0 : Int32)) := zb_fr_set (zb_fr_set (zb_fr_set (zb_fr_set (zb_fr_set (zb_fr_set (zb_fr_refl _ _) rfl) rfl) rfl) rfl) rfl) rfl
  have z4 : (ss_setI (ss_setI (ss_setI (ss_setI (ss_setI (ss_setI s 77 4 (0 : Int32)) 77 5 (0 : Int32)) 77 6 (0 : Int32)) 77 7 (0 : Int32)) 77 8 (0 : Int32)) 77 9 (0 : Int32)).1 77 4 = zb_n 0 := by rw [zb_set_ne (by omega), zb_set_ne (by omega), zb_set_ne (by omega), zb_set_ne (by omega), zb_set_ne (by omega), zb_set_eq]; rfl
  have z5 : (ss_setI (ss_setI (ss_setI (ss_setI (ss_setI (ss_setI s 77 4 (0 : Int32)) 77 5 (0 : Int32)) 77 6 (0 : Int32)) 77 7 (0 : Int32)) 77 8 (0 : Int32)) 77 9 (0 : Int32)).1 77 5 = zb_n 0 := by rw [zb_set_ne (by omega), zb_set_ne (by omega), zb_set_ne (by omega), zb_set_ne (by omega), zb_set_eq]; rfl
  have z6 : (ss_setI (ss_setI (ss_setI (ss_setI (ss_setI (ss_setI s 77 4 (0 : Int32)) 77 5 (0 : Int32)) 77 6 (0 : Int32)) 77 7 (0 : Int32)) 77 8 (0 : Int32)) 77 9 (0 : Int32)).1 77 6 = zb_n 0 := by rw [zb_set_ne (by omega), zb_set_ne (by omega), zb_set_ne (by omega), zb_set_eq]; rfl
  have z7 : (ss_setI (ss_setI (ss_setI (ss_setI (ss_setI (ss_setI s 77 4 (0 : Int32)) 77 5 (0 : Int32)) 77 6 (0 : Int32)) 77 7 (0 : Int32)) 77 8 (0 : Int32)) 77 9 (0 : Int32)).1 77 7 = zb_n 0 := by rw [zb_set_ne (by omega), zb_set_ne (by omega), zb_set_eq]; rfl
  have z8 : (ss_setI (ss_setI (ss_setI (ss_setI (ss_setI (ss_setI s 77 4 (0 : Int32)) 77 5 (0 : Int32)) 77 6 (0 : Int32)) 77 7 (0 : Int32)) 77 8 (0 : Int32)) 77 9 (0 : Int32)).1 77 8 = zb_n 0 := by rw [zb_set_ne (by omega), zb_set_eq]; rfl
  have z9 : (ss_setI (ss_setI (ss_setI (ss_setI (ss_setI (ss_setI s 77 4 (0 : Int32)) 77 5 (0 : Int32)) 77 6 (0 : Int32)) 77 7 (0 : Int32)) 77 8 (0 : Int32)) 77 9 (0 : Int32)).1 77 9 = zb_n 0 := by rw [zb_set_eq]; rfl
  generalize ss_setI (ss_setI (ss_setI (ss_setI (ss_setI (ss_setI s 77 4 (0 : Int32)) 77 5 (0 : Int32)) 77 6 (0 : Int32)) 77 7 (0 : Int32)) 77 8 (0 : Int32)) 77 9 (0 : Int32) = u at *
  refine zb_Wbind2 (zb_fillI (c := 79) (m := 40) (fun f => rfl) (by omega) (fun k => rfl)) (fun v hv => zb_Wsome ?_)
  have f1 : zb_fr zb_ZX s v := zb_fr_trans f0 (zb_fr_mono hv.1 (by decide))
  have g : ∀ j, v.1 77 j = u.1 77 j := fun j => by
    refine hv.1.1 77 j ?_
    have e : zb_rg 77 j = 77000 + j := by unfold zb_rg; rw [if_pos (by decide)]
    rw [e]
    have : ¬ (77000 + j = 79) := by omega
    simp [this]
  have LC0 : zb_LC t n 0 [] v := by
    refine ⟨[], ⟨⟨hn, Nat.zero_le _, Nat.le_refl _⟩, ?_, (g 4).trans z4, (g 5).trans z5, fun i hi => ?_, fun i hi => absurd hi (by simp)⟩, fun k hk => ?_, ⟨0, 0, (g 6).trans z6, (g 7).trans z7, Nat.le_refl _, Nat.le_refl _, rfl⟩, ⟨0, 0, (g 8).trans z8, (g 9).trans z9, Nat.le_refl _, Nat.le_refl _, rfl⟩⟩
    · rw [f1.1 77 3 rfl]; exact h3
    · rw [f1.1 78 i rfl]; exact h78 i hi
    · rw [hv.2 k hk, zb_m1]; rfl
  refine zb_Wmono (zb_X_parses_b6 10 ss_F 0 0 [] v (by omega) (by omega) (by unfold ss_F; omega) (zb_SS_fr hS f1 (by decide)) LC0) (fun r hr => ?_)
  exact ⟨hr.1, zb_fr_trans f1 hr.2.1, fun w => hr.2.2.1 w, hr.2.2.2⟩
end XT
