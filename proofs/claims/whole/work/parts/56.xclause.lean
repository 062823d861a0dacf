/-! the class's clauses -/
def zb_lst (tag : Nat) : List zb_EF → List Int32 → List Int32
  | [], d => d
  | e :: l, d => zb_lst tag l (if e.1 = tag then e.2.2.2 else d)
theorem zb_lst_app (tag : Nat) (e : zb_EF) : ∀ (l : List zb_EF) (d : List Int32), zb_lst tag (l ++ [e]) d = if e.1 = tag then e.2.2.2 else zb_lst tag l d
  | [], d => rfl
  | x :: l, d => zb_lst_app tag e l _
theorem zb_apl_app (e : zb_EF) : ∀ (l : List zb_EF) (V : Nat → Int), zb_apl (l ++ [e]) V = zb_ap e (zb_apl l V)
  | [], V => rfl
  | x :: l, V => zb_apl_app e l _
def zb_rng (i j : Nat) (st L : List Int32) (s : sv_S) : Prop := ∃ b e, s.1 77 i = zb_n b ∧ s.1 77 j = zb_n e ∧ b ≤ e ∧ e ≤ st.length ∧ (st.drop b).take (e - b) = L
def zb_LC (t : Nat → Int32) (n a : Nat) (l : List zb_EF) (s : sv_S) : Prop := ∃ st, zb_LT t n a st s ∧ (∀ k, k < 40 → s.1 79 k = zb_i (zb_apl l (fun _ => -1) k)) ∧ zb_rng 6 7 st (zb_lst 1 l []) s ∧ zb_rng 8 9 st (zb_lst 2 l []) s
def zb_ZX : List Nat := [77004, 77005, 77006, 77007, 77008, 77009, 79, 80]
def zb_CX (t : Nat → Int32) (n : Nat) (l : List zb_EF) (s : sv_S) (p : zb_CR) (r : Int32 × sv_S) : Prop :=
  r.1 = zb_b p.1 ∧ zb_fr zb_ZX s r.2 ∧ (p.1 = true → zb_LC t n p.2.1 (l ++ [p.2.2]) r.2) ∧ (p.1 = false → r.2.1 77 4 = zb_n p.2.1)
section XC
variable {t : Nat → Int32} {n a : Nat} {l : List zb_EF} {s : sv_S} {st : List Int32}
theorem zb_rng_fr {i j : Nat} {L : List Int32} {M : List Nat} {u : sv_S} (h : zb_rng i j st L s) (hf : zb_fr M s u) (hi : M.contains (zb_rg 77 i) = false) (hj : M.contains (zb_rg 77 j) = false) : zb_rng i j st L u := by
  obtain ⟨b, e, h1, h2, h3⟩ := h
  exact ⟨b, e, (hf.1 77 i hi).trans h1, (hf.1 77 j hj).trans h2, h3⟩
theorem zb_rng_app {i j : Nat} {L st' : List Int32} (h : zb_rng i j st L s) : zb_rng i j (st ++ st') L s := by
  obtain ⟨b, e, h1, h2, h3, h4, h5⟩ := h
  refine ⟨b, e, h1, h2, h3, by rw [List.length_append]; omega, ?_⟩
  rw [List.drop_append_of_le_length (by omega), List.take_append_of_le_length (by rw [List.length_drop]; omega)]
  exact h5
theorem zb_SS_fr {M : List Nat} {u : sv_S} (h : zb_SS s) (hf : zb_fr M s u) (hM : M.all (fun x => decide (25 ≤ x)) = true) : zb_SS u := by
  have k : ∀ c j, c < 25 → M.contains (zb_rg c j) = false := by
    intro c j hc
    have e : zb_rg c j = c := by
      unfold zb_rg
      have : zb_ob.contains c = false := by
        have : c = 0 ∨ c = 1 ∨ c = 2 ∨ c = 3 ∨ c = 4 ∨ c = 5 ∨ c = 6 ∨ c = 7 ∨ c = 8 ∨ c = 9 ∨ c = 10 ∨ c = 11 ∨ c = 12 ∨ c = 13 ∨ c = 14 ∨ c = 15 ∨ c = 16 ∨ c = 17 ∨ c = 18 ∨ c = 19 ∨ c = 20 ∨ c = 21 ∨ c = 22 ∨ c = 23 ∨ c = 24 := by omega
        rcases this with rfl | rfl | rfl | rfl | rfl | rfl | rfl | rfl | rfl | rfl | rfl | rfl | rfl | rfl | rfl | rfl | rfl | rfl | rfl | rfl | rfl | rfl | rfl | rfl | rfl <;> rfl
      rw [this, if_neg (by decide), if_neg (by omega), if_neg (by omega), if_neg (by omega), if_neg (by omega)]
    rw [e]
    cases q : M.contains c with
    | false => rfl
    | true =>
      have := List.all_eq_true.mp hM c (List.contains_iff_mem.mp q)
      simp at this; omega
  intro i hi
  have wl := (zb_wl i hi).2.2.2.1
  exact ⟨(hf.1 _ _ (k _ _ (by omega))).trans (h i hi).1, fun j hj => (hf.1 _ _ (k _ _ (by omega))).trans ((h i hi).2 j hj)⟩
/-- a value is set -/
theorem zb_LC_set {u : sv_S} {k b : Nat} {x : Int} (h : ∀ k, k < 40 → s.1 79 k = zb_i (zb_apl l (fun _ => -1) k)) (h6 : zb_rng 6 7 st (zb_lst 1 l []) s) (h8 : zb_rng 8 9 st (zb_lst 2 l []) s) (hL : zb_LT t n b st u) (hf : zb_fr [77004] s u) (hk : k < 40) : zb_LC t n b (l ++ [(0, k, x, [])]) (ss_setI u 79 k (zb_i x)) := by
  refine ⟨st, ⟨hL.1, (zb_set_ne (by omega)).trans hL.2.1, (zb_set_ne (by omega)).trans hL.2.2.1, (zb_set_ne (by omega)).trans hL.2.2.2.1, fun i hi => (zb_set_ne (by omega)).trans (hL.2.2.2.2.1 i hi), fun i hi => (zb_set_ne (by omega)).trans (hL.2.2.2.2.2 i hi)⟩, fun j hj => ?_, ?_, ?_⟩
  · rw [zb_apl_app]
    show _ = zb_i (if j = k then x else zb_apl l (fun _ => -1) j)
    by_cases q : j = k
    · subst q; rw [zb_set_eq, if_pos rfl]
    · rw [zb_set_ne (by omega), if_neg q, hf.1 79 j rfl]; exact h j hj
  · rw [zb_lst_app, if_neg (by simp)]
    exact zb_rng_fr h6 (zb_fr_trans (zb_fr_mono hf (by decide)) (zb_fr_set (L := [77004, 79]) (zb_fr_refl _ _) rfl)) rfl rfl
  · rw [zb_lst_app, if_neg (by simp)]
    exact zb_rng_fr h8 (zb_fr_trans (zb_fr_mono hf (by decide)) (zb_fr_set (L := [77004, 79]) (zb_fr_refl _ _) rfl)) rfl rfl
theorem zb_CX_no {u : sv_S} {b : Nat} {e : zb_EF} (hM : u.1 77 4 = zb_n b) (hf : zb_fr zb_ZX s u) : zb_CX t n l s (false, b, e) (zb_n 0, u) := ⟨rfl, hf, fun q => (by cases q), fun _ => hM⟩
/-- the state before a clause's inside: as at its begin, but for the place -/
def zb_pre (t : Nat → Int32) (n a : Nat) (l : List zb_EF) (st : List Int32) (s u : sv_S) : Prop := zb_LT t n a st u ∧ zb_fr [77004] s u ∧ (∀ k, k < 40 → s.1 79 k = zb_i (zb_apl l (fun _ => -1) k)) ∧ zb_rng 6 7 st (zb_lst 1 l []) s ∧ zb_rng 8 9 st (zb_lst 2 l []) s
theorem zb_pre_at {u : sv_S} {b : Nat} (h : zb_pre t n a l st s u) (hb : b ≤ n) (hab : a ≤ b) : zb_pre t n b l st s (ss_setI u 77 4 (zb_n b)) := ⟨zb_LT_at h.1 hb (by have := h.1.1; omega), zb_fr_set h.2.1 rfl, h.2.2⟩
theorem zb_pre_no {u : sv_S} {e : zb_EF} (h : zb_pre t n a l st s u) : zb_CX t n l s (false, a, e) (zb_n 0, u) := zb_CX_no h.1.2.2.1 (zb_fr_mono h.2.1 (by decide))
theorem zb_pre_set {u : sv_S} {k : Nat} {x : Int} (h : zb_pre t n a l st s u) (hk : k < 40) : zb_CX t n l s (true, a, (0, k, x, [])) (zb_n 1, ss_setI u 79 k (zb_i x)) := ⟨rfl, zb_fr_set (zb_fr_mono h.2.1 (by decide)) rfl, fun _ => zb_LC_set h.2.2.1 h.2.2.2.1 h.2.2.2.2 h.1 h.2.1 hk, fun q => by cases q⟩
theorem zb_pre_num {u : sv_S} {K : Nat} (h : zb_pre t n a l st s u) (hK : 1 ≤ K) (hK4 : K ≤ 4) : zb_W (F_Lt_number (zb_n K) u) (fun r => r.1 = zb_i (zb_no t n K a).1 ∧ zb_pre t n (zb_no t n K a).2 l st s r.2) := by
  refine zb_Wmono (zb_Lt_number hK hK4 h.1) (fun r hr => ⟨hr.1, hr.2.1, zb_fr_trans h.2.1 hr.2.2, h.2.2⟩)
theorem zb_X_nIn {u : sv_S} {k : Nat} (hk : k < 40) (h : zb_pre t n a l st s u) : zb_W (F_Lt_numberInto (zb_n k) u) (zb_CX t n l s (zb_nIn t n k a)) := by
  have hb := h.1.1
  unfold F_Lt_numberInto zb_nIn
  rw [show (4 : Int32) = zb_n 4 from rfl]
  refine zb_Wbind2 (zb_pre_num h (by omega) (by omega)) (fun r hr => ?_)
  obtain ⟨r1, r2⟩ := hr
  rw [r1]
  unfold zb_no at r2 ⊢
  by_cases q : zb_dg (zb_nc t n a) = true
  · have g := zb_num4 (t := t) (a := a) (n := n) (by omega)
    rw [if_pos q] at r2
    rw [if_pos q, if_pos q]
    refine zb_Wpos (by rw [show (0 : Int32) = zb_i 0 from zb_n_i 0, zb_i_le (by omega) (by omega) (by omega) (by omega)]; omega) ?_
    refine zb_Wpos (by first | omega | (simp (disch := omega) only [zb_lit, zb_n_add, zb_n_mul, zb_n_ix, zb_n_lt, zb_n_le, zb_n_eq, zb_ib_n] <;> omega)) ?_
    refine zb_Wlet (zb_Wsome ?_)
    rw [zb_n_ix (by omega)]
    exact zb_pre_set r2 hk
  · rw [if_neg q] at r2
    rw [if_neg q, if_neg q]
    exact zb_Wneg (show ¬ (0 : Int32) ≤ zb_i (-1) by decide) (zb_Wsome (zb_pre_no r2))
theorem zb_X_wrap {p : zb_CR} {q : Option (Int32 × sv_S)} (h : zb_W q (zb_CX t n l s p)) : zb_W (q.bind fun r => if r.1 = 0 then some ((0 : Int32), r.2) else some ((1 : Int32), r.2)) (zb_CX t n l s p) := by
  refine zb_Wbind2 h (fun r hr => ?_)
  have e := hr.1
  cases hp : p.1 with
  | false => rw [hp] at e; exact zb_Wpos e (zb_Wsome ⟨by rw [hp]; rfl, hr.2⟩)
  | true => rw [hp] at e; exact zb_Wneg (by rw [e]; decide) (zb_Wsome ⟨by rw [hp]; rfl, hr.2⟩)
theorem zb_X_bl {p : zb_CR} {q : Option (Int32 × sv_S)} (h : zb_W q (zb_CX t n l s p)) : zb_W (q.bind fun r => if sv_bl r.1 = true then some (r.1, r.2) else none) (zb_CX t n l s p) := by
  refine zb_Wbind2 h (fun r hr => ?_)
  exact zb_Wpos (by rw [hr.1]; exact zb_bl_b) (zb_Wsome hr)
theorem zb_X_sp {u : sv_S} {f : Nat → zb_CR} {K : sv_S → Option (Int32 × sv_S)} (h : zb_pre t n a l st s u) (k : ∀ w, a < n → zb_pre t n (a + 1) l st s w → zb_W (K w) (zb_CX t n l s (f (a + 1)))) : zb_W ((F_Lt_takes (32 : Int32) u).bind fun r => if r.1 = 0 then some ((0 : Int32), r.2) else K r.2) (zb_CX t n l s (zb_sp t n f a)) := by
  have hb := h.1.1
  unfold zb_sp
  rw [show (32 : Int32) = zb_n 32 from rfl, zb_Lt_takes h.1 (by omega)]
  refine zb_Wbind (zb_Wsome ?_)
  by_cases q : zb_nc t n a = zb_n 32
  · have hlt := zb_nc_lt (by omega) q
    rw [if_pos q, if_pos q]
    exact zb_Wneg zb_10 (k _ hlt (zb_pre_at h (by omega) (by omega)))
  · rw [if_neg q, if_neg q]
    exact zb_Wpos rfl (zb_Wsome (zb_pre_no h))
theorem zb_no1 (h : zb_dg (zb_nc t n a) = true) : zb_no t n 1 a = (zb_di1 t n a, a + 1) := by
  unfold zb_no zb_di1; rw [if_pos h]; simp only [zb_num]; rw [if_pos h]; congr 1; omega
theorem zb_no1' (h : ¬ zb_dg (zb_nc t n a) = true) {K : Nat} : zb_no t n K a = (-1, a) := by unfold zb_no; rw [if_neg h]
theorem zb_ge0 {x : Int} (h : 0 ≤ x) (h2 : x ≤ 2147483647) : (0 : Int32) ≤ zb_i x := by rw [show (0 : Int32) = zb_i 0 from zb_n_i 0, zb_i_le (by omega) (by omega) (by omega) (by omega)]; omega
theorem zb_ge0' {x : Int} (h : 0 ≤ x) (h2 : x ≤ 2147483647) : ¬ zb_i x < (0 : Int32) := by rw [show (0 : Int32) = zb_i 0 from zb_n_i 0, zb_i_lt (by omega) (by omega) (by omega) (by omega)]; omega
theorem zb_X_most {u : sv_S} (h : zb_pre t n a l st s u) : zb_W (F_Lt_mostClause u) (zb_CX t n l s (zb_most t n a)) := by
  unfold F_Lt_mostClause zb_most
  refine zb_X_sp (K := fun w => (F_Lt_number (1 : Int32) w).bind fun r2 => if r2.1 < 0 then some ((0 : Int32), r2.2) else (F_Lt_takes (32 : Int32) r2.2).bind fun r3 => if r3.1 = 0 then some ((0 : Int32), r3.2) else (F_Lt_numberInto ((10 : Int32) + r2.1) r3.2).bind fun r4 => if r4.1 = 0 then some ((0 : Int32), r4.2) else some ((1 : Int32), r4.2)) h (fun w hlt hw => ?_)
  rw [show (1 : Int32) = zb_n 1 from rfl]
  refine zb_Wbind2 (zb_pre_num hw (by omega) (by omega)) (fun r hr => ?_)
  obtain ⟨r1, r2⟩ := hr
  rw [r1]
  by_cases q : zb_dg (zb_nc t n (a + 1)) = true
  · obtain ⟨g1, g2, g3⟩ := zb_di1_rg q
    rw [zb_no1 q] at r2 ⊢
    rw [if_pos q]
    refine zb_Wneg (zb_ge0' g1 (by omega)) ?_
    refine zb_X_sp (K := fun w => (F_Lt_numberInto ((10 : Int32) + zb_i (zb_di1 t n (a + 1))) w).bind fun r4 => if r4.1 = 0 then some ((0 : Int32), r4.2) else some ((1 : Int32), r4.2)) r2 (fun v hlt2 hv => ?_)
    have e : (10 : Int32) + zb_i (zb_di1 t n (a + 1)) = zb_n (10 + (zb_di1 t n (a + 1)).toNat) := by rw [zb_n_i, show (10 : Int32) = zb_i 10 from zb_n_i 10, zb_i_add]; congr 1; omega
    rw [e]
    exact zb_X_wrap (zb_X_nIn (by omega) hv)
  · rw [zb_no1' q] at r2 ⊢
    rw [if_neg q]
    exact zb_Wpos (show zb_i (-1) < (0 : Int32) by decide) (zb_Wsome (zb_pre_no r2))
theorem zb_X_g2 {u : sv_S} {x y : Int} {g : Nat} (hx : 0 ≤ x) (hx9 : x ≤ 9) (hy : y ≤ 9) (hg : (y = -1 ∧ g = x.toNat) ∨ (0 ≤ y ∧ g = 10 + y.toNat)) (h : zb_pre t n a l st s u) : zb_W (F_Lt_goodClause_b31 (zb_i x) (zb_i y) u) (zb_CX t n l s (zb_g2 t n g a)) := by
  unfold F_Lt_goodClause_b31 zb_g2
  refine zb_Wneg (zb_ge0' hx (by omega)) ?_
  refine zb_X_sp (K := fun w => (F_Lt_number (1 : Int32) w).bind fun r4 => if 0 ≤ r4.1 then (if 0 ≤ zb_i y then (if sv_ib ((20 : Int32) + ((10 : Int32) + zb_i y)) 40 = true then ss_let (ss_setI r4.2 79 ((20 : Int32) + ((10 : Int32) + zb_i y)).toNatClampNeg r4.1) fun s5 => some ((1 : Int32), s5) else none) else (if sv_ib ((20 : Int32) + zb_i x) 40 = true then ss_let (ss_setI r4.2 79 ((20 : Int32) + zb_i x).toNatClampNeg r4.1) fun s6 => some ((1 : Int32), s6) else none)) else some ((0 : Int32), r4.2)) h (fun w hlt hw => ?_)
  rw [show (1 : Int32) = zb_n 1 from rfl]
  refine zb_Wbind2 (zb_pre_num hw (by omega) (by omega)) (fun r hr => ?_)
  obtain ⟨r1, r2⟩ := hr
  rw [r1]
  by_cases q : zb_dg (zb_nc t n (a + 1)) = true
  · obtain ⟨g1, g2, g3⟩ := zb_di1_rg q
    rw [zb_no1 q] at r2 ⊢
    rw [if_pos q]
    refine zb_Wpos (zb_ge0 g1 (by omega)) ?_
    rcases hg with ⟨rfl, rfl⟩ | ⟨hy0, rfl⟩
    · refine zb_Wneg (by decide) ?_
      have e : (20 : Int32) + zb_i x = zb_n (20 + x.toNat) := by rw [zb_n_i, show (20 : Int32) = zb_i 20 from zb_n_i 20, zb_i_add]; congr 1; omega
      rw [e]
      refine zb_Wpos (by first | omega | (simp (disch := omega) only [zb_lit, zb_n_add, zb_n_mul, zb_n_ix, zb_n_lt, zb_n_le, zb_n_eq, zb_ib_n] <;> omega)) ?_
      refine zb_Wlet (zb_Wsome ?_)
      rw [zb_n_ix (by omega)]
      exact zb_pre_set r2 (by omega)
    · refine zb_Wpos (zb_ge0 hy0 (by omega)) ?_
      have e : (20 : Int32) + ((10 : Int32) + zb_i y) = zb_n (20 + (10 + y.toNat)) := by rw [zb_n_i, show (20 : Int32) = zb_i 20 from zb_n_i 20, show (10 : Int32) = zb_i 10 from zb_n_i 10, zb_i_add, zb_i_add]; congr 1; omega
      rw [e]
      refine zb_Wpos (by first | omega | (simp (disch := omega) only [zb_lit, zb_n_add, zb_n_mul, zb_n_ix, zb_n_lt, zb_n_le, zb_n_eq, zb_ib_n] <;> omega)) ?_
      refine zb_Wlet (zb_Wsome ?_)
      rw [zb_n_ix (by omega)]
      exact zb_pre_set r2 (by omega)
  · rw [zb_no1' q] at r2 ⊢
    rw [if_neg q]
    exact zb_Wneg (show ¬ (0 : Int32) ≤ zb_i (-1) by decide) (zb_Wsome (zb_pre_no r2))
theorem zb_X_good {u : sv_S} (h : zb_pre t n a l st s u) : zb_W (F_Lt_goodClause u) (zb_CX t n l s (zb_good t n a)) := by
  unfold F_Lt_goodClause zb_good
  refine zb_X_sp (K := fun w => (F_Lt_number (1 : Int32) w).bind fun r2 => if r2.1 = (1 : Int32) then (F_Lt_number (1 : Int32) r2.2).bind fun r7 => F_Lt_goodClause_b31 r2.1 r7.1 r7.2 else F_Lt_goodClause_b31 r2.1 (-1 : Int32) r2.2) h (fun w hlt hw => ?_)
  rw [zb_m1, show (1 : Int32) = zb_n 1 from rfl]
  refine zb_Wbind2 (zb_pre_num hw (by omega) (by omega)) (fun r hr => ?_)
  obtain ⟨r1, r2⟩ := hr
  rw [r1]
  by_cases q : zb_dg (zb_nc t n (a + 1)) = true
  · obtain ⟨g1, g2, g3⟩ := zb_di1_rg q
    rw [zb_no1 q] at r2 ⊢
    rw [if_pos q]
    by_cases o1 : zb_di1 t n (a + 1) = 1
    · refine zb_Wpos (by rw [o1]; rfl) ?_
      refine zb_Wbind2 (zb_pre_num r2 (by omega) (by omega)) (fun v hv => ?_)
      obtain ⟨v1, v2⟩ := hv
      rw [v1]
      by_cases q2 : zb_dg (zb_nc t n (a + 1 + 1)) = true
      · obtain ⟨k1, k2, k3⟩ := zb_di1_rg q2
        rw [zb_no1 q2] at v2 ⊢
        rw [if_pos ⟨o1, q2⟩]
        exact zb_X_g2 g1 g2 k2 (Or.inr ⟨k1, rfl⟩) v2
      · rw [zb_no1' q2] at v2 ⊢
        rw [if_neg (fun z => q2 z.2)]
        exact zb_X_g2 g1 g2 (by omega) (Or.inl ⟨rfl, rfl⟩) v2
    · refine zb_Wneg (by rw [zb_n_i, zb_i_eq (by omega) (by omega) (by omega) (by omega)]; exact o1) ?_
      rw [if_neg (fun z => o1 z.1)]
      exact zb_X_g2 g1 g2 (by omega) (Or.inl ⟨rfl, rfl⟩) r2
  · rw [zb_no1' q] at r2 ⊢
    rw [if_neg q]
    refine zb_Wneg (show ¬ zb_i (-1) = zb_n 1 by decide) ?_
    unfold F_Lt_goodClause_b31
    exact zb_Wpos (show zb_i (-1) < (0 : Int32) by decide) (zb_Wsome (zb_pre_no r2))
end XC
