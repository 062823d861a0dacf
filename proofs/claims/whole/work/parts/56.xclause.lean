/-! the class's clauses -/
def sb_lst (tag : Nat) : List sb_EF → List Int32 → List Int32
  | [], d => d
  | e :: l, d => sb_lst tag l (if e.1 = tag then e.2.2.2 else d)
theorem sb_lst_app (tag : Nat) (e : sb_EF) : ∀ (l : List sb_EF) (d : List Int32), sb_lst tag (l ++ [e]) d = if e.1 = tag then e.2.2.2 else sb_lst tag l d
  | [], d => rfl
  | x :: l, d => sb_lst_app tag e l _
theorem sb_apl_app (e : sb_EF) : ∀ (l : List sb_EF) (V : Nat → Int), sb_apl (l ++ [e]) V = sb_ap e (sb_apl l V)
  | [], V => rfl
  | x :: l, V => sb_apl_app e l _
def sb_rng (i j : Nat) (st L : List Int32) (s : sv_S) : Prop := ∃ b e, s.1 77 i = sb_n b ∧ s.1 77 j = sb_n e ∧ b ≤ e ∧ e ≤ st.length ∧ (st.drop b).take (e - b) = L
def sb_LC (t : Nat → Int32) (n a : Nat) (l : List sb_EF) (s : sv_S) : Prop := ∃ st, sb_LT t n a st s ∧ (∀ k, k < 40 → s.1 79 k = sb_i (sb_apl l (fun _ => -1) k)) ∧ sb_rng 6 7 st (sb_lst 1 l []) s ∧ sb_rng 8 9 st (sb_lst 2 l []) s
def sb_ZX : List Nat := [77004, 77005, 77006, 77007, 77008, 77009, 79, 80]
def sb_CX (t : Nat → Int32) (n : Nat) (l : List sb_EF) (s : sv_S) (p : sb_CR) (r : Int32 × sv_S) : Prop :=
  r.1 = sb_b p.1 ∧ sb_fr sb_ZX s r.2 ∧ (p.1 = true → sb_LC t n p.2.1 (l ++ [p.2.2]) r.2) ∧ (p.1 = false → r.2.1 77 4 = sb_n p.2.1)
section XC
variable {t : Nat → Int32} {n a : Nat} {l : List sb_EF} {s : sv_S} {st : List Int32}
theorem sb_rng_fr {i j : Nat} {L : List Int32} {M : List Nat} {u : sv_S} (h : sb_rng i j st L s) (hf : sb_fr M s u) (hi : M.contains (sb_rg 77 i) = false) (hj : M.contains (sb_rg 77 j) = false) : sb_rng i j st L u := by
  obtain ⟨b, e, h1, h2, h3⟩ := h
  exact ⟨b, e, (hf.1 77 i hi).trans h1, (hf.1 77 j hj).trans h2, h3⟩
theorem sb_rng_app {i j : Nat} {L st' : List Int32} (h : sb_rng i j st L s) : sb_rng i j (st ++ st') L s := by
  obtain ⟨b, e, h1, h2, h3, h4, h5⟩ := h
  refine ⟨b, e, h1, h2, h3, by rw [List.length_append]; omega, ?_⟩
  rw [List.drop_append_of_le_length (by omega), List.take_append_of_le_length (by rw [List.length_drop]; omega)]
  exact h5
theorem sb_SS_fr {M : List Nat} {u : sv_S} (h : sb_SS s) (hf : sb_fr M s u) (hM : M.all (fun x => decide (25 ≤ x)) = true) : sb_SS u := by
  have k : ∀ c j, c < 25 → M.contains (sb_rg c j) = false := by
    intro c j hc
    have e : sb_rg c j = c := by
      unfold sb_rg
      have : sb_ob.contains c = false := by
        have : c = 0 ∨ c = 1 ∨ c = 2 ∨ c = 3 ∨ c = 4 ∨ c = 5 ∨ c = 6 ∨ c = 7 ∨ c = 8 ∨ c = 9 ∨ c = 10 ∨ c = 11 ∨ c = 12 ∨ c = 13 ∨ c = 14 ∨ c = 15 ∨ c = 16 ∨ c = 17 ∨ c = 18 ∨ c = 19 ∨ c = 20 ∨ c = 21 ∨ c = 22 ∨ c = 23 ∨ c = 24 := by omega
        rcases this with rfl | rfl | rfl | rfl | rfl | rfl | rfl | rfl | rfl | rfl | rfl | rfl | rfl | rfl | rfl | rfl | rfl | rfl | rfl | rfl | rfl | rfl | rfl | rfl | rfl <;> rfl
      rw [this, if_neg (by decide), if_neg (by omega), if_neg (by omega), if_neg (by omega), if_neg (by omega)]
    rw [e]
    cases q : M.contains c with
    | false => rfl
    | true =>
      have := List.all_eq_true.mp hM c (List.contains_iff_mem.mp q)
      simp at this; omega
  intro i hi
  have wl := (sb_wl i hi).2.2.2.1
  exact ⟨(hf.1 _ _ (k _ _ (by omega))).trans (h i hi).1, fun j hj => (hf.1 _ _ (k _ _ (by omega))).trans ((h i hi).2 j hj)⟩
/-- a value is set -/
theorem sb_LC_set {u : sv_S} {k b : Nat} {x : Int} (h : ∀ k, k < 40 → s.1 79 k = sb_i (sb_apl l (fun _ => -1) k)) (h6 : sb_rng 6 7 st (sb_lst 1 l []) s) (h8 : sb_rng 8 9 st (sb_lst 2 l []) s) (hL : sb_LT t n b st u) (hf : sb_fr [77004] s u) (hk : k < 40) : sb_LC t n b (l ++ [(0, k, x, [])]) (ss_setI u 79 k (sb_i x)) := by
  refine ⟨st, ⟨hL.1, (sb_set_ne (by omega)).trans hL.2.1, (sb_set_ne (by omega)).trans hL.2.2.1, (sb_set_ne (by omega)).trans hL.2.2.2.1, fun i hi => (sb_set_ne (by omega)).trans (hL.2.2.2.2.1 i hi), fun i hi => (sb_set_ne (by omega)).trans (hL.2.2.2.2.2 i hi)⟩, fun j hj => ?_, ?_, ?_⟩
  · rw [sb_apl_app]
    show _ = sb_i (if j = k then x else sb_apl l (fun _ => -1) j)
    by_cases q : j = k
    · subst q; rw [sb_set_eq, if_pos rfl]
    · rw [sb_set_ne (by omega), if_neg q, hf.1 79 j rfl]; exact h j hj
  · rw [sb_lst_app, if_neg (by simp)]
    exact sb_rng_fr h6 (sb_fr_trans (sb_fr_mono hf (by decide)) (sb_fr_set (L := [77004, 79]) (sb_fr_refl _ _) rfl)) rfl rfl
  · rw [sb_lst_app, if_neg (by simp)]
    exact sb_rng_fr h8 (sb_fr_trans (sb_fr_mono hf (by decide)) (sb_fr_set (L := [77004, 79]) (sb_fr_refl _ _) rfl)) rfl rfl
theorem sb_CX_no {u : sv_S} {b : Nat} {e : sb_EF} (hM : u.1 77 4 = sb_n b) (hf : sb_fr sb_ZX s u) : sb_CX t n l s (false, b, e) (sb_n 0, u) := ⟨rfl, hf, fun q => (by cases q), fun _ => hM⟩
/-- the state before a clause's inside: as at its begin, but for the place -/
def sb_pre (t : Nat → Int32) (n a : Nat) (l : List sb_EF) (st : List Int32) (s u : sv_S) : Prop := sb_LT t n a st u ∧ sb_fr [77004] s u ∧ (∀ k, k < 40 → s.1 79 k = sb_i (sb_apl l (fun _ => -1) k)) ∧ sb_rng 6 7 st (sb_lst 1 l []) s ∧ sb_rng 8 9 st (sb_lst 2 l []) s
theorem sb_pre_at {u : sv_S} {b : Nat} (h : sb_pre t n a l st s u) (hb : b ≤ n) (hab : a ≤ b) : sb_pre t n b l st s (ss_setI u 77 4 (sb_n b)) := ⟨sb_LT_at h.1 hb (by have := h.1.1; omega), sb_fr_set h.2.1 rfl, h.2.2⟩
theorem sb_pre_no {u : sv_S} {e : sb_EF} (h : sb_pre t n a l st s u) : sb_CX t n l s (false, a, e) (sb_n 0, u) := sb_CX_no h.1.2.2.1 (sb_fr_mono h.2.1 (by decide))
theorem sb_pre_set {u : sv_S} {k : Nat} {x : Int} (h : sb_pre t n a l st s u) (hk : k < 40) : sb_CX t n l s (true, a, (0, k, x, [])) (sb_n 1, ss_setI u 79 k (sb_i x)) := ⟨rfl, sb_fr_set (sb_fr_mono h.2.1 (by decide)) rfl, fun _ => sb_LC_set h.2.2.1 h.2.2.2.1 h.2.2.2.2 h.1 h.2.1 hk, fun q => by cases q⟩
theorem sb_pre_num {u : sv_S} {K : Nat} (h : sb_pre t n a l st s u) (hK : 1 ≤ K) (hK4 : K ≤ 4) : sb_W (F_Lt_number (sb_n K) u) (fun r => r.1 = sb_i (sb_no t n K a).1 ∧ sb_pre t n (sb_no t n K a).2 l st s r.2) := by
  refine sb_Wmono (sb_Lt_number hK hK4 h.1) (fun r hr => ⟨hr.1, hr.2.1, sb_fr_trans h.2.1 hr.2.2, h.2.2⟩)
theorem sb_X_nIn {u : sv_S} {k : Nat} (hk : k < 40) (h : sb_pre t n a l st s u) : sb_W (F_Lt_numberInto (sb_n k) u) (sb_CX t n l s (sb_nIn t n k a)) := by
  have hb := h.1.1
  unfold F_Lt_numberInto sb_nIn
  rw [show (4 : Int32) = sb_n 4 from rfl]
  refine sb_Wbind2 (sb_pre_num h (by omega) (by omega)) (fun r hr => ?_)
  obtain ⟨r1, r2⟩ := hr
  rw [r1]
  unfold sb_no at r2 ⊢
  by_cases q : sb_dg (sb_nc t n a) = true
  · have g := sb_num4 (t := t) (a := a) (n := n) (by omega)
    rw [if_pos q] at r2
    rw [if_pos q, if_pos q]
    refine sb_Wpos (by rw [show (0 : Int32) = sb_i 0 from sb_n_i 0, sb_i_le (by omega) (by omega) (by omega) (by omega)]; omega) ?_
    refine sb_Wpos (by first | omega | (simp (disch := omega) only [sb_lit, sb_n_add, sb_n_mul, sb_n_ix, sb_n_lt, sb_n_le, sb_n_eq, sb_ib_n] <;> omega)) ?_
    refine sb_Wlet (sb_Wsome ?_)
    rw [sb_n_ix (by omega)]
    exact sb_pre_set r2 hk
  · rw [if_neg q] at r2
    rw [if_neg q, if_neg q]
    exact sb_Wneg (show ¬ (0 : Int32) ≤ sb_i (-1) by decide) (sb_Wsome (sb_pre_no r2))
theorem sb_X_wrap {p : sb_CR} {q : Option (Int32 × sv_S)} (h : sb_W q (sb_CX t n l s p)) : sb_W (q.bind fun r => if r.1 = 0 then some ((0 : Int32), r.2) else some ((1 : Int32), r.2)) (sb_CX t n l s p) := by
  refine sb_Wbind2 h (fun r hr => ?_)
  have e := hr.1
  cases hp : p.1 with
  | false => rw [hp] at e; exact sb_Wpos e (sb_Wsome ⟨by rw [hp]; rfl, hr.2⟩)
  | true => rw [hp] at e; exact sb_Wneg (by rw [e]; decide) (sb_Wsome ⟨by rw [hp]; rfl, hr.2⟩)
theorem sb_X_bl {p : sb_CR} {q : Option (Int32 × sv_S)} (h : sb_W q (sb_CX t n l s p)) : sb_W (q.bind fun r => if sv_bl r.1 = true then some (r.1, r.2) else none) (sb_CX t n l s p) := by
  refine sb_Wbind2 h (fun r hr => ?_)
  exact sb_Wpos (by rw [hr.1]; exact sb_bl_b) (sb_Wsome hr)
theorem sb_X_sp {u : sv_S} {f : Nat → sb_CR} {K : sv_S → Option (Int32 × sv_S)} (h : sb_pre t n a l st s u) (k : ∀ w, a < n → sb_pre t n (a + 1) l st s w → sb_W (K w) (sb_CX t n l s (f (a + 1)))) : sb_W ((F_Lt_takes (32 : Int32) u).bind fun r => if r.1 = 0 then some ((0 : Int32), r.2) else K r.2) (sb_CX t n l s (sb_sp t n f a)) := by
  have hb := h.1.1
  unfold sb_sp
  rw [show (32 : Int32) = sb_n 32 from rfl, sb_Lt_takes h.1 (by omega)]
  refine sb_Wbind (sb_Wsome ?_)
  by_cases q : sb_nc t n a = sb_n 32
  · have hlt := sb_nc_lt (by omega) q
    rw [if_pos q, if_pos q]
    exact sb_Wneg sb_10 (k _ hlt (sb_pre_at h (by omega) (by omega)))
  · rw [if_neg q, if_neg q]
    exact sb_Wpos rfl (sb_Wsome (sb_pre_no h))
theorem sb_no1 (h : sb_dg (sb_nc t n a) = true) : sb_no t n 1 a = (sb_di1 t n a, a + 1) := by
  unfold sb_no sb_di1; rw [if_pos h]; simp only [sb_num]; rw [if_pos h]; congr 1; omega
theorem sb_no1' (h : ¬ sb_dg (sb_nc t n a) = true) {K : Nat} : sb_no t n K a = (-1, a) := by unfold sb_no; rw [if_neg h]
theorem sb_ge0 {x : Int} (h : 0 ≤ x) (h2 : x ≤ 2147483647) : (0 : Int32) ≤ sb_i x := by rw [show (0 : Int32) = sb_i 0 from sb_n_i 0, sb_i_le (by omega) (by omega) (by omega) (by omega)]; omega
theorem sb_ge0' {x : Int} (h : 0 ≤ x) (h2 : x ≤ 2147483647) : ¬ sb_i x < (0 : Int32) := by rw [show (0 : Int32) = sb_i 0 from sb_n_i 0, sb_i_lt (by omega) (by omega) (by omega) (by omega)]; omega
theorem sb_X_most {u : sv_S} (h : sb_pre t n a l st s u) : sb_W (F_Lt_mostClause u) (sb_CX t n l s (sb_most t n a)) := by
  unfold F_Lt_mostClause sb_most
  refine sb_X_sp (K := fun w => (F_Lt_number (1 : Int32) w).bind fun r2 => if r2.1 < 0 then some ((0 : Int32), r2.2) else (F_Lt_takes (32 : Int32) r2.2).bind fun r3 => if r3.1 = 0 then some ((0 : Int32), r3.2) else (F_Lt_numberInto ((10 : Int32) + r2.1) r3.2).bind fun r4 => if r4.1 = 0 then some ((0 : Int32), r4.2) else some ((1 : Int32), r4.2)) h (fun w hlt hw => ?_)
  rw [show (1 : Int32) = sb_n 1 from rfl]
  refine sb_Wbind2 (sb_pre_num hw (by omega) (by omega)) (fun r hr => ?_)
  obtain ⟨r1, r2⟩ := hr
  rw [r1]
  by_cases q : sb_dg (sb_nc t n (a + 1)) = true
  · obtain ⟨g1, g2, g3⟩ := sb_di1_rg q
    rw [sb_no1 q] at r2 ⊢
    rw [if_pos q]
    refine sb_Wneg (sb_ge0' g1 (by omega)) ?_
    refine sb_X_sp (K := fun w => (F_Lt_numberInto ((10 : Int32) + sb_i (sb_di1 t n (a + 1))) w).bind fun r4 => if r4.1 = 0 then some ((0 : Int32), r4.2) else some ((1 : Int32), r4.2)) r2 (fun v hlt2 hv => ?_)
    have e : (10 : Int32) + sb_i (sb_di1 t n (a + 1)) = sb_n (10 + (sb_di1 t n (a + 1)).toNat) := by rw [sb_n_i, show (10 : Int32) = sb_i 10 from sb_n_i 10, sb_i_add]; congr 1; omega
    rw [e]
    exact sb_X_wrap (sb_X_nIn (by omega) hv)
  · rw [sb_no1' q] at r2 ⊢
    rw [if_neg q]
    exact sb_Wpos (show sb_i (-1) < (0 : Int32) by decide) (sb_Wsome (sb_pre_no r2))
theorem sb_X_g2 {u : sv_S} {x y : Int} {g : Nat} (hx : 0 ≤ x) (hx9 : x ≤ 9) (hy : y ≤ 9) (hg : (y = -1 ∧ g = x.toNat) ∨ (0 ≤ y ∧ g = 10 + y.toNat)) (h : sb_pre t n a l st s u) : sb_W (F_Lt_goodClause_b31 (sb_i x) (sb_i y) u) (sb_CX t n l s (sb_g2 t n g a)) := by
  unfold F_Lt_goodClause_b31 sb_g2
  refine sb_Wneg (sb_ge0' hx (by omega)) ?_
  refine sb_X_sp (K := fun w => (F_Lt_number (1 : Int32) w).bind fun r4 => if 0 ≤ r4.1 then (if 0 ≤ sb_i y then (if sv_ib ((20 : Int32) + ((10 : Int32) + sb_i y)) 40 = true then ss_let (ss_setI r4.2 79 ((20 : Int32) + ((10 : Int32) + sb_i y)).toNatClampNeg r4.1) fun s5 => some ((1 : Int32), s5) else none) else (if sv_ib ((20 : Int32) + sb_i x) 40 = true then ss_let (ss_setI r4.2 79 ((20 : Int32) + sb_i x).toNatClampNeg r4.1) fun s6 => some ((1 : Int32), s6) else none)) else some ((0 : Int32), r4.2)) h (fun w hlt hw => ?_)
  rw [show (1 : Int32) = sb_n 1 from rfl]
  refine sb_Wbind2 (sb_pre_num hw (by omega) (by omega)) (fun r hr => ?_)
  obtain ⟨r1, r2⟩ := hr
  rw [r1]
  by_cases q : sb_dg (sb_nc t n (a + 1)) = true
  · obtain ⟨g1, g2, g3⟩ := sb_di1_rg q
    rw [sb_no1 q] at r2 ⊢
    rw [if_pos q]
    refine sb_Wpos (sb_ge0 g1 (by omega)) ?_
    rcases hg with ⟨rfl, rfl⟩ | ⟨hy0, rfl⟩
    · refine sb_Wneg (by decide) ?_
      have e : (20 : Int32) + sb_i x = sb_n (20 + x.toNat) := by rw [sb_n_i, show (20 : Int32) = sb_i 20 from sb_n_i 20, sb_i_add]; congr 1; omega
      rw [e]
      refine sb_Wpos (by first | omega | (simp (disch := omega) only [sb_lit, sb_n_add, sb_n_mul, sb_n_ix, sb_n_lt, sb_n_le, sb_n_eq, sb_ib_n] <;> omega)) ?_
      refine sb_Wlet (sb_Wsome ?_)
      rw [sb_n_ix (by omega)]
      exact sb_pre_set r2 (by omega)
    · refine sb_Wpos (sb_ge0 hy0 (by omega)) ?_
      have e : (20 : Int32) + ((10 : Int32) + sb_i y) = sb_n (20 + (10 + y.toNat)) := by rw [sb_n_i, show (20 : Int32) = sb_i 20 from sb_n_i 20, show (10 : Int32) = sb_i 10 from sb_n_i 10, sb_i_add, sb_i_add]; congr 1; omega
      rw [e]
      refine sb_Wpos (by first | omega | (simp (disch := omega) only [sb_lit, sb_n_add, sb_n_mul, sb_n_ix, sb_n_lt, sb_n_le, sb_n_eq, sb_ib_n] <;> omega)) ?_
      refine sb_Wlet (sb_Wsome ?_)
      rw [sb_n_ix (by omega)]
      exact sb_pre_set r2 (by omega)
  · rw [sb_no1' q] at r2 ⊢
    rw [if_neg q]
    exact sb_Wneg (show ¬ (0 : Int32) ≤ sb_i (-1) by decide) (sb_Wsome (sb_pre_no r2))
theorem sb_X_good {u : sv_S} (h : sb_pre t n a l st s u) : sb_W (F_Lt_goodClause u) (sb_CX t n l s (sb_good t n a)) := by
  unfold F_Lt_goodClause sb_good
  refine sb_X_sp (K := fun w => (F_Lt_number (1 : Int32) w).bind fun r2 => if r2.1 = (1 : Int32) then (F_Lt_number (1 : Int32) r2.2).bind fun r7 => F_Lt_goodClause_b31 r2.1 r7.1 r7.2 else F_Lt_goodClause_b31 r2.1 (-1 : Int32) r2.2) h (fun w hlt hw => ?_)
  rw [sb_m1, show (1 : Int32) = sb_n 1 from rfl]
  refine sb_Wbind2 (sb_pre_num hw (by omega) (by omega)) (fun r hr => ?_)
  obtain ⟨r1, r2⟩ := hr
  rw [r1]
  by_cases q : sb_dg (sb_nc t n (a + 1)) = true
  · obtain ⟨g1, g2, g3⟩ := sb_di1_rg q
    rw [sb_no1 q] at r2 ⊢
    rw [if_pos q]
    by_cases o1 : sb_di1 t n (a + 1) = 1
    · refine sb_Wpos (by rw [o1]; rfl) ?_
      refine sb_Wbind2 (sb_pre_num r2 (by omega) (by omega)) (fun v hv => ?_)
      obtain ⟨v1, v2⟩ := hv
      rw [v1]
      by_cases q2 : sb_dg (sb_nc t n (a + 1 + 1)) = true
      · obtain ⟨k1, k2, k3⟩ := sb_di1_rg q2
        rw [sb_no1 q2] at v2 ⊢
        rw [if_pos ⟨o1, q2⟩]
        exact sb_X_g2 g1 g2 k2 (Or.inr ⟨k1, rfl⟩) v2
      · rw [sb_no1' q2] at v2 ⊢
        rw [if_neg (fun z => q2 z.2)]
        exact sb_X_g2 g1 g2 (by omega) (Or.inl ⟨rfl, rfl⟩) v2
    · refine sb_Wneg (by rw [sb_n_i, sb_i_eq (by omega) (by omega) (by omega) (by omega)]; exact o1) ?_
      rw [if_neg (fun z => o1 z.1)]
      exact sb_X_g2 g1 g2 (by omega) (Or.inl ⟨rfl, rfl⟩) r2
  · rw [sb_no1' q] at r2 ⊢
    rw [if_neg q]
    refine sb_Wneg (show ¬ sb_i (-1) = sb_n 1 by decide) ?_
    unfold F_Lt_goodClause_b31
    exact sb_Wpos (show sb_i (-1) < (0 : Int32) by decide) (sb_Wsome (sb_pre_no r2))
end XC
