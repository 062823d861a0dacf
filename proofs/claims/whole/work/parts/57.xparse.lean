/-! the class's texts -/
section XT
variable {t : Nat → Int32} {n a : Nat} {l : List sb_EF} {s : sv_S} {st : List Int32}
theorem sb_LT_fr {M : List Nat} {u : sv_S} (h : sb_LT t n a st s) (hf : sb_fr M s u) (hM : [77003, 77004, 77005, 78, 80].all (fun x => !M.contains x) = true) : sb_LT t n a st u := by
  have k : ∀ x, x ∈ [77003, 77004, 77005, 78, 80] → M.contains x = false := fun x hx => by have := List.all_eq_true.mp hM x hx; simpa using this
  refine ⟨h.1, ?_, ?_, ?_, fun i hi => ?_, fun i hi => ?_⟩
  · rw [hf.1 77 3 (k 77003 (by decide))]; exact h.2.1
  · rw [hf.1 77 4 (k 77004 (by decide))]; exact h.2.2.1
  · rw [hf.1 77 5 (k 77005 (by decide))]; exact h.2.2.2.1
  · rw [hf.1 78 i (k 78 (by decide))]; exact h.2.2.2.2.1 i hi
  · rw [hf.1 80 i (k 80 (by decide))]; exact h.2.2.2.2.2 i hi
theorem sb_wgo_rg {t : Nat → Int32} {n a : Nat} : ∀ (ws : List (List Nat)) (i far : Nat), (∀ w, w ∈ ws → ∀ c, c ∈ w → c ≤ 127) → i + ws.length = 11 → a ≤ far → far ≤ n → (-1 ≤ (sb_wgo t n a ws i far).1 ∧ (sb_wgo t n a ws i far).1 ≤ 10 ∧ a ≤ (sb_wgo t n a ws i far).2 ∧ (sb_wgo t n a ws i far).2 ≤ n)
  | [], i, far, _, _, h1, h2 => by simp only [sb_wgo]; omega
  | w :: ws, i, far, hw, hi, h1, h2 => by
    have lk := sb_lk_le (t := t) (n := n) w a (hw w (by simp)) (by omega)
    rw [List.length_cons] at hi
    simp only [sb_wgo]
    by_cases q : sb_lk t n a w = w.length
    · rw [if_pos q]; dsimp only; omega
    · rw [if_neg q]
      exact sb_wgo_rg ws (i + 1) _ (fun v hv => hw v (by simp [hv])) (by omega) (by omega) (by omega)
theorem sb_wd_rg (ha : a ≤ n) : -1 ≤ (sb_wd t n a).1 ∧ (sb_wd t n a).1 ≤ 10 ∧ a ≤ (sb_wd t n a).2 ∧ (sb_wd t n a).2 ≤ n := sb_wgo_rg sb_ws 0 a (by decide) (by decide) (Nat.le_refl _) ha

theorem sb_X_xsame {u : sv_S} (h : sb_pre t n a l st s u) : sb_W (ss_let (ss_setI u 77 6 (u.1 77 5)) fun s13 =>
    (F_Lt_takes (32 : Int32) s13).bind fun r14 =>
    if r14.1 = 0 then
      ss_let (ss_setI r14.2 77 7 (r14.2.1 77 5)) fun s15 =>
      some ((0 : Int32), s15)
    else
    (F_Lt_either (0 : Int32) r14.2).bind fun r16 =>
    if r16.1 = 0 then
      ss_let (ss_setI r16.2 77 7 (r16.2.1 77 5)) fun s17 =>
      some ((0 : Int32), s17)
    else
    ss_let (ss_setI r16.2 77 7 (r16.2.1 77 5)) fun s18 =>
    some ((1 : Int32), s18)) (sb_CX t n l s (sb_xp t n 1 a)) := by
  have hb := h.1.1
  unfold sb_xp sb_sp
  refine sb_Wlet ?_
  rw [h.1.2.2.2.1]
  simp only [sb_lit]
  have f0 : sb_fr sb_ZX s (ss_setI u 77 6 (sb_n st.length)) := sb_fr_set (sb_fr_mono h.2.1 (by decide)) rfl
  have L0 : sb_LT t n a st (ss_setI u 77 6 (sb_n st.length)) := sb_LT_fr (M := [77006]) h.1 (sb_fr_set (sb_fr_refl _ _) rfl) (by decide)
  have e6 : (ss_setI u 77 6 (sb_n st.length)).1 77 6 = sb_n st.length := sb_set_eq
  have f8 : sb_fr [77004, 77006] s (ss_setI u 77 6 (sb_n st.length)) := sb_fr_set (sb_fr_mono h.2.1 (by decide)) rfl
  generalize ss_setI u 77 6 (sb_n st.length) = u0 at f0 L0 e6 f8 ⊢
  rw [sb_Lt_takes L0 (by omega)]
  refine sb_Wbind (sb_Wsome ?_)
  by_cases q : sb_nc t n a = sb_n 32
  · have hlt := sb_nc_lt (by omega) q
    rw [if_pos q, if_pos q]
    refine sb_Wneg sb_10 ?_
    refine sb_Wbind2 (sb_Lt_exp (sb_LT_at (b := a + 1) L0 (by omega) (by omega))) (fun r hr => ?_)
    obtain ⟨r1, r2, r3⟩ := hr
    have f1 : sb_fr sb_ZX s r.2 := sb_fr_trans (sb_fr_set f0 rfl) (sb_fr_mono r3 (by decide))
    have f9 : sb_fr [77004, 77006, 77005, 80] s r.2 := sb_fr_trans (sb_fr_set (sb_fr_mono f8 (by decide)) rfl) (sb_fr_mono r3 (by decide))
    have e7 : r.2.1 77 6 = sb_n st.length := by rw [r3.1 77 6 rfl, sb_set_ne (by omega)]; exact e6
    rw [r1, r2.2.2.2.1]
    simp only [sb_b0]
    cases hp : (sb_exp t n (a + 1)).1 with
    | false => exact sb_Wpos rfl (sb_Wlet (sb_Wsome ⟨rfl, sb_fr_set f1 rfl, fun q => (by cases q), fun _ => by rw [sb_set_ne (by omega)]; exact r2.2.2.1⟩))
    | true =>
      refine sb_Wneg (by decide) (sb_Wlet (sb_Wsome ⟨rfl, sb_fr_set f1 rfl, fun _ => ?_, fun q => by cases q⟩))
      have L2 : sb_LT t n (sb_exp t n (a + 1)).2.1 (st ++ (sb_exp t n (a + 1)).2.2) (ss_setI r.2 77 7 (sb_n (st ++ (sb_exp t n (a + 1)).2.2).length)) := sb_LT_fr (M := [77007]) r2 (sb_fr_set (sb_fr_refl _ _) rfl) (by decide)
      have f10 : sb_fr [77004, 77006, 77007, 77005, 80] s (ss_setI r.2 77 7 (sb_n (st ++ (sb_exp t n (a + 1)).2.2).length)) := sb_fr_set (sb_fr_mono f9 (by decide)) rfl
      have V2 : ∀ k, k < 40 → (ss_setI r.2 77 7 (sb_n (st ++ (sb_exp t n (a + 1)).2.2).length)).1 79 k = sb_i (sb_apl (l ++ [(1, 0, 0, (sb_exp t n (a + 1)).2.2)]) (fun _ => -1) k) := by
        intro k hk
        rw [f10.1 79 k rfl, sb_apl_app]
        exact h.2.2.1 k hk
      have R1 : sb_rng 6 7 (st ++ (sb_exp t n (a + 1)).2.2) (sb_lst 1 (l ++ [(1, 0, 0, (sb_exp t n (a + 1)).2.2)]) []) (ss_setI r.2 77 7 (sb_n (st ++ (sb_exp t n (a + 1)).2.2).length)) := by
        refine ⟨st.length, (st ++ (sb_exp t n (a + 1)).2.2).length, ?_, sb_set_eq, by rw [List.length_append]; omega, Nat.le_refl _, ?_⟩
        · rw [sb_set_ne (by omega)]; exact e7
        · rw [sb_lst_app, if_pos rfl, List.drop_left, List.length_append, Nat.add_sub_cancel_left, List.take_length]
      have R2 : sb_rng 8 9 (st ++ (sb_exp t n (a + 1)).2.2) (sb_lst 2 (l ++ [(1, 0, 0, (sb_exp t n (a + 1)).2.2)]) []) (ss_setI r.2 77 7 (sb_n (st ++ (sb_exp t n (a + 1)).2.2).length)) := by
        rw [sb_lst_app, if_neg (by simp)]
        exact sb_rng_app (sb_rng_fr h.2.2.2.2 f10 rfl rfl)
      exact ⟨st ++ (sb_exp t n (a + 1)).2.2, L2, V2, R1, R2⟩
  · rw [if_neg q, if_neg q]
    refine sb_Wpos rfl (sb_Wlet (sb_Wsome ⟨rfl, sb_fr_set f0 rfl, fun q => (by cases q), fun _ => ?_⟩))
    rw [sb_set_ne (by omega)]; exact L0.2.2.1
theorem sb_X_xexcuse {u : sv_S} (h : sb_pre t n a l st s u) : sb_W (ss_let (ss_setI u 77 8 (u.1 77 5)) fun s13 =>
    (F_Lt_takes (32 : Int32) s13).bind fun r14 =>
    if r14.1 = 0 then
      ss_let (ss_setI r14.2 77 9 (r14.2.1 77 5)) fun s15 =>
      some ((0 : Int32), s15)
    else
    (F_Lt_either (0 : Int32) r14.2).bind fun r16 =>
    if r16.1 = 0 then
      ss_let (ss_setI r16.2 77 9 (r16.2.1 77 5)) fun s17 =>
      some ((0 : Int32), s17)
    else
    ss_let (ss_setI r16.2 77 9 (r16.2.1 77 5)) fun s18 =>
    some ((1 : Int32), s18)) (sb_CX t n l s (sb_xp t n 2 a)) := by
  have hb := h.1.1
  unfold sb_xp sb_sp
  refine sb_Wlet ?_
  rw [h.1.2.2.2.1]
  simp only [sb_lit]
  have f0 : sb_fr sb_ZX s (ss_setI u 77 8 (sb_n st.length)) := sb_fr_set (sb_fr_mono h.2.1 (by decide)) rfl
  have L0 : sb_LT t n a st (ss_setI u 77 8 (sb_n st.length)) := sb_LT_fr (M := [77008]) h.1 (sb_fr_set (sb_fr_refl _ _) rfl) (by decide)
  have e6 : (ss_setI u 77 8 (sb_n st.length)).1 77 8 = sb_n st.length := sb_set_eq
  have f8 : sb_fr [77004, 77008] s (ss_setI u 77 8 (sb_n st.length)) := sb_fr_set (sb_fr_mono h.2.1 (by decide)) rfl
  generalize ss_setI u 77 8 (sb_n st.length) = u0 at f0 L0 e6 f8 ⊢
  rw [sb_Lt_takes L0 (by omega)]
  refine sb_Wbind (sb_Wsome ?_)
  by_cases q : sb_nc t n a = sb_n 32
  · have hlt := sb_nc_lt (by omega) q
    rw [if_pos q, if_pos q]
    refine sb_Wneg sb_10 ?_
    refine sb_Wbind2 (sb_Lt_exp (sb_LT_at (b := a + 1) L0 (by omega) (by omega))) (fun r hr => ?_)
    obtain ⟨r1, r2, r3⟩ := hr
    have f1 : sb_fr sb_ZX s r.2 := sb_fr_trans (sb_fr_set f0 rfl) (sb_fr_mono r3 (by decide))
    have f9 : sb_fr [77004, 77008, 77005, 80] s r.2 := sb_fr_trans (sb_fr_set (sb_fr_mono f8 (by decide)) rfl) (sb_fr_mono r3 (by decide))
    have e7 : r.2.1 77 8 = sb_n st.length := by rw [r3.1 77 8 rfl, sb_set_ne (by omega)]; exact e6
    rw [r1, r2.2.2.2.1]
    simp only [sb_b0]
    cases hp : (sb_exp t n (a + 1)).1 with
    | false => exact sb_Wpos rfl (sb_Wlet (sb_Wsome ⟨rfl, sb_fr_set f1 rfl, fun q => (by cases q), fun _ => by rw [sb_set_ne (by omega)]; exact r2.2.2.1⟩))
    | true =>
      refine sb_Wneg (by decide) (sb_Wlet (sb_Wsome ⟨rfl, sb_fr_set f1 rfl, fun _ => ?_, fun q => by cases q⟩))
      have L2 : sb_LT t n (sb_exp t n (a + 1)).2.1 (st ++ (sb_exp t n (a + 1)).2.2) (ss_setI r.2 77 9 (sb_n (st ++ (sb_exp t n (a + 1)).2.2).length)) := sb_LT_fr (M := [77009]) r2 (sb_fr_set (sb_fr_refl _ _) rfl) (by decide)
      have f10 : sb_fr [77004, 77008, 77009, 77005, 80] s (ss_setI r.2 77 9 (sb_n (st ++ (sb_exp t n (a + 1)).2.2).length)) := sb_fr_set (sb_fr_mono f9 (by decide)) rfl
      have V2 : ∀ k, k < 40 → (ss_setI r.2 77 9 (sb_n (st ++ (sb_exp t n (a + 1)).2.2).length)).1 79 k = sb_i (sb_apl (l ++ [(2, 0, 0, (sb_exp t n (a + 1)).2.2)]) (fun _ => -1) k) := by
        intro k hk
        rw [f10.1 79 k rfl, sb_apl_app]
        exact h.2.2.1 k hk
      have R1 : sb_rng 8 9 (st ++ (sb_exp t n (a + 1)).2.2) (sb_lst 2 (l ++ [(2, 0, 0, (sb_exp t n (a + 1)).2.2)]) []) (ss_setI r.2 77 9 (sb_n (st ++ (sb_exp t n (a + 1)).2.2).length)) := by
        refine ⟨st.length, (st ++ (sb_exp t n (a + 1)).2.2).length, ?_, sb_set_eq, by rw [List.length_append]; omega, Nat.le_refl _, ?_⟩
        · rw [sb_set_ne (by omega)]; exact e7
        · rw [sb_lst_app, if_pos rfl, List.drop_left, List.length_append, Nat.add_sub_cancel_left, List.take_length]
      have R2 : sb_rng 6 7 (st ++ (sb_exp t n (a + 1)).2.2) (sb_lst 1 (l ++ [(2, 0, 0, (sb_exp t n (a + 1)).2.2)]) []) (ss_setI r.2 77 9 (sb_n (st ++ (sb_exp t n (a + 1)).2.2).length)) := by
        rw [sb_lst_app, if_neg (by simp)]
        exact sb_rng_app (sb_rng_fr h.2.2.2.1 f10 rfl rfl)
      exact ⟨st ++ (sb_exp t n (a + 1)).2.2, L2, V2, R2, R1⟩
  · rw [if_neg q, if_neg q]
    refine sb_Wpos rfl (sb_Wlet (sb_Wsome ⟨rfl, sb_fr_set f0 rfl, fun q => (by cases q), fun _ => ?_⟩))
    rw [sb_set_ne (by omega)]; exact L0.2.2.1
theorem sb_X_clause (hS : sb_SS s) (h : sb_LC t n a l s) : sb_W (F_Lt_clause s) (sb_CX t n l s (sb_cl t n a)) := by
  obtain ⟨st, h1, h2, h3, h4⟩ := h
  have hb := h1.1
  unfold F_Lt_clause sb_cl
  rw [sb_Lt_word hS h1]
  refine sb_Wbind (sb_Wsome ?_)
  obtain ⟨w1, w2, w3, w4⟩ := sb_wd_rg (t := t) (n := n) (a := a) (by omega)
  generalize sb_wd t n a = w at *
  obtain ⟨i, b⟩ := w
  dsimp only at w1 w2 w3 w4 ⊢
  have hp : sb_pre t n b l st s (ss_setI s 77 4 (sb_n b)) := ⟨sb_LT_at h1 w4 (by omega), sb_fr_set (sb_fr_refl _ _) rfl, h2, h3, h4⟩
  generalize ss_setI s 77 4 (sb_n b) = u at hp ⊢
  unfold sb_bw
  dsimp only
  have E : ∀ (c : Int32) (k : Int), c = sb_i k → -1 ≤ k → k ≤ 10 → ((sb_i i = c) = (i = k)) := fun c k hc k1 k2 => by rw [hc]; exact sb_i_eq (by omega) (by omega) (by omega) (by omega)
  by_cases cm1 : i = -1
  · rw [if_pos cm1]
    refine sb_Wpos (by rw [cm1]; exact sb_m1.symm) ?_
    exact sb_Wsome (sb_pre_no hp)
  rw [if_neg cm1]
  refine sb_Wneg (fun z => cm1 ((E (-1) (-1) sb_m1 (by omega) (by omega)).mp z)) ?_
  by_cases c0 : i = 0
  · rw [if_pos c0]
    refine sb_Wpos (by rw [c0]; exact (sb_n_i 0).symm) ?_
    exact sb_X_bl (sb_X_good hp)
  rw [if_neg c0]
  refine sb_Wneg (fun z => c0 ((E (0) (0) (sb_n_i 0) (by omega) (by omega)).mp z)) ?_
  by_cases c6 : i = 6
  · rw [if_pos c6]
    refine sb_Wpos (by rw [c6]; exact (sb_n_i 6).symm) ?_
    refine sb_Wpos (by decide) (sb_Wlet (sb_Wsome ?_))
    have e6 : (6 : Int32).toNatClampNeg = 6 := sb_n_ix (k := 6) (by omega)
    rw [e6, show (1 : Int32) = sb_i 1 from sb_n_i 1]
    exact sb_pre_set hp (by omega)
  rw [if_neg c6]
  refine sb_Wneg (fun z => c6 ((E (6) (6) (sb_n_i 6) (by omega) (by omega)).mp z)) ?_
  by_cases c7 : i = 7
  · rw [if_pos c7]
    refine sb_Wpos (by rw [c7]; exact (sb_n_i 7).symm) ?_
    refine sb_Wpos (by decide) (sb_Wlet (sb_Wsome ?_))
    have e6 : (6 : Int32).toNatClampNeg = 6 := sb_n_ix (k := 6) (by omega)
    rw [e6, show (0 : Int32) = sb_i 0 from sb_n_i 0]
    exact sb_pre_set hp (by omega)
  rw [if_neg c7]
  refine sb_Wneg (fun z => c7 ((E (7) (7) (sb_n_i 7) (by omega) (by omega)).mp z)) ?_
  by_cases c8 : i = 8
  · rw [if_pos c8]
    refine sb_Wpos (by rw [c8]; exact (sb_n_i 8).symm) ?_
    exact sb_X_bl (sb_X_most hp)
  rw [if_neg c8]
  refine sb_Wneg (fun z => c8 ((E (8) (8) (sb_n_i 8) (by omega) (by omega)).mp z)) ?_
  by_cases c9 : i = 9
  · rw [if_pos c9]
    refine sb_Wpos (by rw [c9]; exact (sb_n_i 9).symm) ?_
    exact sb_X_xsame hp
  rw [if_neg c9]
  refine sb_Wneg (fun z => c9 ((E (9) (9) (sb_n_i 9) (by omega) (by omega)).mp z)) ?_
  by_cases c10 : i = 10
  · rw [if_pos c10]
    refine sb_Wpos (by rw [c10]; exact (sb_n_i 10).symm) ?_
    exact sb_X_xexcuse hp
  rw [if_neg c10]
  refine sb_Wneg (fun z => c10 ((E (10) (10) (sb_n_i 10) (by omega) (by omega)).mp z)) ?_
  have e : sb_i i = sb_n i.toNat := by rw [sb_n_i, Int.toNat_of_nonneg (by omega)]
  rw [e]
  exact sb_X_sp (K := fun w => (F_Lt_numberInto (sb_n i.toNat) w).bind fun r28 => if r28.1 = 0 then some ((0 : Int32), r28.2) else some ((1 : Int32), r28.2)) hp (fun v _ hv => sb_X_wrap (sb_X_nIn (by omega) hv))
theorem sb_X_parses_b6 : ∀ (k f c a : Nat) (l : List sb_EF) (s : sv_S), c + k = 10 → 1 ≤ k → k < f → sb_SS s → sb_LC t n a l s → sb_W (F_Lt_parses_b6 f (sb_n c) s) (fun r => r.1 = sb_b (sb_cls t n k a).1 ∧ sb_fr sb_ZX s r.2 ∧ ((sb_cls t n k a).1 = true → sb_LC t n n (l ++ (sb_cls t n k a).2.2) r.2) ∧ r.2.1 77 4 = sb_n (sb_cls t n k a).2.1) := by
  intro k
  induction k with
  | zero => intro f c a l s _ h; omega
  | succ k ih =>
    intro f c a l s hc hk hf hS h
    obtain ⟨f, rfl⟩ : ∃ g, f = g + 1 := ⟨f - 1, by omega⟩
    simp only [F_Lt_parses_b6]
    refine sb_Wneg (by first | omega | (simp (disch := omega) only [sb_lit, sb_n_add, sb_n_mul, sb_n_ix, sb_n_lt, sb_n_le, sb_n_eq, sb_ib_n] <;> omega)) ?_
    refine sb_Wbind2 (sb_X_clause hS h) (fun r hr => ?_)
    generalize hP : sb_cls t n (k + 1) a = P
    simp only [sb_cls] at hP
    obtain ⟨r1, r2, r3, r4⟩ := hr
    simp only [sb_lit]
    rw [r1]
    simp only [sb_b0]
    cases hp : (sb_cl t n a).1 with
    | false =>
      rw [hp, if_neg (by decide)] at hP
      rw [← hP]
      exact sb_Wpos rfl (sb_Wsome ⟨rfl, r2, fun q => (by cases q), r4 hp⟩)
    | true =>
      rw [hp, if_pos rfl] at hP
      have m1 := r3 hp
      obtain ⟨st, m2, m3⟩ := id m1
      have mb := m2.1
      refine sb_Wneg (by decide) ?_
      rw [m2.2.2.1, m2.2.1]
      by_cases q : (sb_cl t n a).2.1 = n
      · rw [if_pos q] at hP
        rw [← hP]
        rw [q] at m1
        exact sb_Wpos (by rw [q]) (sb_Wsome ⟨rfl, r2, fun _ => m1, by rw [m2.2.2.1, q]⟩)
      · rw [if_neg q] at hP
        refine sb_Wneg (by rw [sb_n_eq (by omega) (by omega)]; exact q) ?_
        by_cases k0 : k = 0
        · rw [if_pos k0] at hP
          rw [← hP]
          exact sb_Wpos (by rw [show c = 9 by omega]) (sb_Wsome ⟨rfl, r2, fun q => (by cases q), m2.2.2.1⟩)
        · rw [if_neg k0] at hP
          refine sb_Wneg (by rw [sb_n_eq (by omega) (by omega)]; omega) ?_
          rw [sb_Lt_takes m2 (by omega)]
          refine sb_Wbind (sb_Wsome ?_)
          by_cases q2 : sb_nc t n (sb_cl t n a).2.1 = sb_n 59
          · have hlt := sb_nc_lt (by omega) q2
            rw [if_pos q2] at hP
            rw [if_pos q2]
            refine sb_Wneg sb_10 (sb_Wlet ?_)
            rw [sb_n_add]
            have fz : sb_fr sb_ZX s (ss_setI r.2 77 4 (sb_n ((sb_cl t n a).2.1 + 1))) := sb_fr_set r2 rfl
            have LC1 : sb_LC t n ((sb_cl t n a).2.1 + 1) (l ++ [(sb_cl t n a).2.2]) (ss_setI r.2 77 4 (sb_n ((sb_cl t n a).2.1 + 1))) := by
              have f4 : sb_fr [77004] r.2 (ss_setI r.2 77 4 (sb_n ((sb_cl t n a).2.1 + 1))) := sb_fr_set (sb_fr_refl _ _) rfl
              exact ⟨st, sb_LT_at m2 (by omega) (by omega), fun j hj => (f4.1 79 j rfl).trans (m3.1 j hj), sb_rng_fr m3.2.1 f4 rfl rfl, sb_rng_fr m3.2.2 f4 rfl rfl⟩
            refine sb_Wmono (ih f (c + 1) ((sb_cl t n a).2.1 + 1) _ _ (by omega) (by omega) (by omega) (sb_SS_fr hS fz (by decide)) LC1) (fun v hv => ?_)
            obtain ⟨v1, v2, v3, v4⟩ := hv
            rw [← hP]
            refine ⟨v1, sb_fr_trans fz v2, fun w => ?_, v4⟩
            have := v3 w
            rw [List.append_assoc] at this
            exact this
          · rw [if_neg q2] at hP
            rw [if_neg q2, ← hP]
            exact sb_Wpos rfl (sb_Wsome ⟨rfl, r2, fun q => (by cases q), m2.2.2.1⟩)
/-- filling a row of ints -/
theorem sb_fillI {c m : Nat} {x : Int32} (hc : ∀ f, ss_N f c = m) (hm : m ≤ 8000) (hr : ∀ k, sb_rg c k = c) : sb_W (F_JA_fillI c x s) (fun r => sb_fr [c] s r ∧ ∀ k, k < m → r.1 c k = x) := by
  unfold F_JA_fillI
  refine sb_Wlet ?_
  rw [hc]
  show sb_W (F_JA_fillI_b5 ss_F c x (sb_n 0) (sb_n m) s) _
  refine sb_for (fun f k s => F_JA_fillI_b5 f c x (sb_n k) (sb_n m) s) m (fun k u => sb_fr [c] s u ∧ ∀ j, j < k → u.1 c j = x) ?_ ?_ ss_F 0 s (by omega) (by unfold ss_F; omega) ⟨sb_fr_refl _ _, fun j hj => absurd hj (by omega)⟩
  · intro f u hI
    simp only [F_JA_fillI_b5]
    exact sb_Wpos (Int32.le_refl _) (sb_Wsome hI)
  · intro f k u hk hI ih
    simp only [F_JA_fillI_b5]
    rw [hc]
    refine sb_Wneg (by first | omega | (simp (disch := omega) only [sb_lit, sb_n_add, sb_n_mul, sb_n_ix, sb_n_lt, sb_n_le, sb_n_eq, sb_ib_n] <;> omega)) ?_
    refine sb_Wpos (by first | omega | (simp (disch := omega) only [sb_lit, sb_n_add, sb_n_mul, sb_n_ix, sb_n_lt, sb_n_le, sb_n_eq, sb_ib_n] <;> omega)) ?_
    refine sb_Wlet (sb_Wlet ?_)
    simp (disch := omega) only [sb_lit, sb_n_add, sb_n_mul, sb_n_ix, sb_n_lt, sb_n_le, sb_n_eq, sb_ib_n]
    refine ih _ ⟨sb_fr_set hI.1 (by rw [hr]; simp), fun j hj => ?_⟩
    by_cases q : j = k
    · subst q; rw [sb_set_eq]
    · rw [sb_set_ne (by omega)]; exact hI.2 j (by omega)
/-- the class reads its text -/
theorem sb_X_parses (hS : sb_SS s) (hn : n ≤ 140) (h3 : s.1 77 3 = sb_n n) (h78 : ∀ i, i < n → s.1 78 i = t i) : sb_W (F_Lt_parses s) (fun r => r.1 = sb_b (sb_cls t n 10 0).1 ∧ sb_fr sb_ZX s r.2 ∧ ((sb_cls t n 10 0).1 = true → sb_LC t n n (sb_cls t n 10 0).2.2 r.2) ∧ r.2.1 77 4 = sb_n (sb_cls t n 10 0).2.1) := by
  unfold F_Lt_parses F_Lt_begin
  refine sb_Wbind (sb_Wlet (sb_Wlet (sb_Wlet (sb_Wlet (sb_Wlet (sb_Wlet ?_))))))
  have f0 : sb_fr sb_ZX s (ss_setI (ss_setI (ss_setI (ss_setI (ss_setI (ss_setI s 77 4 (0 : Int32)) 77 5 (0 : Int32)) 77 6 (0 : Int32)) 77 7 (0 : Int32)) 77 8 (0 : Int32)) 77 9 (0 : Int32)) := sb_fr_set (sb_fr_set (sb_fr_set (sb_fr_set (sb_fr_set (sb_fr_set (sb_fr_refl _ _) rfl) rfl) rfl) rfl) rfl) rfl
  have z4 : (ss_setI (ss_setI (ss_setI (ss_setI (ss_setI (ss_setI s 77 4 (0 : Int32)) 77 5 (0 : Int32)) 77 6 (0 : Int32)) 77 7 (0 : Int32)) 77 8 (0 : Int32)) 77 9 (0 : Int32)).1 77 4 = sb_n 0 := by rw [sb_set_ne (by omega), sb_set_ne (by omega), sb_set_ne (by omega), sb_set_ne (by omega), sb_set_ne (by omega), sb_set_eq]; rfl
  have z5 : (ss_setI (ss_setI (ss_setI (ss_setI (ss_setI (ss_setI s 77 4 (0 : Int32)) 77 5 (0 : Int32)) 77 6 (0 : Int32)) 77 7 (0 : Int32)) 77 8 (0 : Int32)) 77 9 (0 : Int32)).1 77 5 = sb_n 0 := by rw [sb_set_ne (by omega), sb_set_ne (by omega), sb_set_ne (by omega), sb_set_ne (by omega), sb_set_eq]; rfl
  have z6 : (ss_setI (ss_setI (ss_setI (ss_setI (ss_setI (ss_setI s 77 4 (0 : Int32)) 77 5 (0 : Int32)) 77 6 (0 : Int32)) 77 7 (0 : Int32)) 77 8 (0 : Int32)) 77 9 (0 : Int32)).1 77 6 = sb_n 0 := by rw [sb_set_ne (by omega), sb_set_ne (by omega), sb_set_ne (by omega), sb_set_eq]; rfl
  have z7 : (ss_setI (ss_setI (ss_setI (ss_setI (ss_setI (ss_setI s 77 4 (0 : Int32)) 77 5 (0 : Int32)) 77 6 (0 : Int32)) 77 7 (0 : Int32)) 77 8 (0 : Int32)) 77 9 (0 : Int32)).1 77 7 = sb_n 0 := by rw [sb_set_ne (by omega), sb_set_ne (by omega), sb_set_eq]; rfl
  have z8 : (ss_setI (ss_setI (ss_setI (ss_setI (ss_setI (ss_setI s 77 4 (0 : Int32)) 77 5 (0 : Int32)) 77 6 (0 : Int32)) 77 7 (0 : Int32)) 77 8 (0 : Int32)) 77 9 (0 : Int32)).1 77 8 = sb_n 0 := by rw [sb_set_ne (by omega), sb_set_eq]; rfl
  have z9 : (ss_setI (ss_setI (ss_setI (ss_setI (ss_setI (ss_setI s 77 4 (0 : Int32)) 77 5 (0 : Int32)) 77 6 (0 : Int32)) 77 7 (0 : Int32)) 77 8 (0 : Int32)) 77 9 (0 : Int32)).1 77 9 = sb_n 0 := by rw [sb_set_eq]; rfl
  generalize ss_setI (ss_setI (ss_setI (ss_setI (ss_setI (ss_setI s 77 4 (0 : Int32)) 77 5 (0 : Int32)) 77 6 (0 : Int32)) 77 7 (0 : Int32)) 77 8 (0 : Int32)) 77 9 (0 : Int32) = u at *
  refine sb_Wbind2 (sb_fillI (c := 79) (m := 40) (fun f => rfl) (by omega) (fun k => rfl)) (fun v hv => sb_Wsome ?_)
  have f1 : sb_fr sb_ZX s v := sb_fr_trans f0 (sb_fr_mono hv.1 (by decide))
  have g : ∀ j, v.1 77 j = u.1 77 j := fun j => by
    refine hv.1.1 77 j ?_
    have e : sb_rg 77 j = 77000 + j := by unfold sb_rg; rw [if_pos (by decide)]
    rw [e]
    have : ¬ (77000 + j = 79) := by omega
    simp [this]
  have LC0 : sb_LC t n 0 [] v := by
    refine ⟨[], ⟨⟨hn, Nat.zero_le _, Nat.le_refl _⟩, ?_, (g 4).trans z4, (g 5).trans z5, fun i hi => ?_, fun i hi => absurd hi (by simp)⟩, fun k hk => ?_, ⟨0, 0, (g 6).trans z6, (g 7).trans z7, Nat.le_refl _, Nat.le_refl _, rfl⟩, ⟨0, 0, (g 8).trans z8, (g 9).trans z9, Nat.le_refl _, Nat.le_refl _, rfl⟩⟩
    · rw [f1.1 77 3 rfl]; exact h3
    · rw [f1.1 78 i rfl]; exact h78 i hi
    · rw [hv.2 k hk, sb_m1]; rfl
  refine sb_Wmono (sb_X_parses_b6 10 ss_F 0 0 [] v (by omega) (by omega) (by unfold ss_F; omega) (sb_SS_fr hS f1 (by decide)) LC0) (fun r hr => ?_)
  exact ⟨hr.1, sb_fr_trans f1 hr.2.1, fun w => hr.2.2.1 w, hr.2.2.2⟩
end XT
