/-! the model's reader of expressions -/
def sb_MT (t : Nat → Int32) (n a base : Nat) (s : sv_S) : Prop := (n ≤ 140 ∧ a ≤ n ∧ base ≤ 2240) ∧ s.1 187 23 = sb_n base ∧ s.1 187 24 = sb_n n ∧ s.1 187 25 = sb_n a ∧ ∀ i, i < n → s.1 197 (base + i) = t i
def sb_sk (f : Nat → Int32) : List Int32 → Prop
  | [] => True
  | x :: l => f l.length = x ∧ sb_sk f l
def sb_skb (f : Nat → Int32) : List Bool → Prop
  | [] => True
  | x :: l => f l.length = sb_b x ∧ sb_skb f l
theorem sb_sk_up {f g : Nat → Int32} : ∀ (l : List Int32), (∀ i, i < l.length → g i = f i) → sb_sk f l → sb_sk g l
  | [], _, _ => trivial
  | x :: l, e, h => ⟨(e _ (by simp)).trans h.1, sb_sk_up l (fun i hi => e i (by simp; omega)) h.2⟩
theorem sb_skb_up {f g : Nat → Int32} : ∀ (l : List Bool), (∀ i, i < l.length → g i = f i) → sb_skb f l → sb_skb g l
  | [], _, _ => trivial
  | x :: l, e, h => ⟨(e _ (by simp)).trans h.1, sb_skb_up l (fun i hi => e i (by simp; omega)) h.2⟩
/-- how many are open -/
def sb_op : List Int32 → Nat
  | [] => 0
  | x :: l => (if x = sb_n 33 ∨ x = sb_n 40 then 1 else 0) + sb_op l
theorem sb_op_le : ∀ l, sb_op l ≤ l.length
  | [] => by simp [sb_op]
  | x :: l => by have := sb_op_le l; simp only [sb_op, List.length_cons]; split <;> omega
def sb_ME (t : Nat → Int32) (n a base : Nat) (W : List Int32) (P : List Bool) (s : sv_S) : Prop :=
  sb_MT t n a base s ∧ (W.length ≤ a ∧ P.length ≤ a) ∧ s.1 187 29 = sb_n W.length ∧ sb_sk (s.1 203) W ∧ s.1 187 30 = sb_n P.length ∧ sb_skb (s.1 204) P ∧ s.1 187 31 = sb_n (sb_op W)
/-- what is laid on: the '!' that wait are done at once -/
def sb_pn : List Int32 → Bool → Bool × List Int32
  | [], v => (v, [])
  | x :: W, v => if x = sb_n 33 then sb_pn W (!v) else (v, x :: W)
def sb_ZE : List Nat := [187025, 187026, 187029, 187030, 187031, 203, 204]
section ME
variable {t : Nat → Int32} {n a base : Nat} {s : sv_S} {W : List Int32} {P : List Bool}
theorem sb_next_M (h : sb_MT t n a base s) : F_Mo_next s = some (sb_nc t n a) := by
  obtain ⟨⟨b1, b2, b3⟩, h1, h2, h3, h4⟩ := h
  unfold F_Mo_next sb_nc
  rw [sb_m1]
  simp (disch := omega) only [sb_lit, sb_n_add, sb_n_mul, sb_n_ix, sb_n_lt, sb_n_le, sb_n_eq, sb_ib_n, h1, h2, h3]
  by_cases q : a < n
  · rw [if_neg (by omega), if_pos (by omega), if_pos q, h4 a q]
  · rw [if_pos (by omega), if_neg q]
theorem sb_MT_fr {L : List Nat} {u : sv_S} (h : sb_MT t n a base s) (hf : sb_fr L s u) (hL : [187023, 187024, 187025, 197].all (fun x => !L.contains x) = true) : sb_MT t n a base u := by
  have k : ∀ x, x ∈ [187023, 187024, 187025, 197] → L.contains x = false := fun x hx => by have := List.all_eq_true.mp hL x hx; simpa using this
  refine ⟨h.1, ?_, ?_, ?_, fun i hi => ?_⟩
  · rw [hf.1 187 23 (k 187023 (by decide))]; exact h.2.1
  · rw [hf.1 187 24 (k 187024 (by decide))]; exact h.2.2.1
  · rw [hf.1 187 25 (k 187025 (by decide))]; exact h.2.2.2.1
  · rw [hf.1 197 _ (k 197 (by decide))]; exact h.2.2.2.2 i hi
theorem sb_MT_at {b : Nat} (h : sb_MT t n a base s) (hb : b ≤ n) : sb_MT t n b base (ss_setI s 187 25 (sb_n b)) :=
  ⟨⟨h.1.1, hb, h.1.2.2⟩, (sb_set_ne (by omega)).trans h.2.1, (sb_set_ne (by omega)).trans h.2.2.1, sb_set_eq, fun i hi => (sb_set_ne (by omega)).trans (h.2.2.2.2 i hi)⟩
theorem sb_Mo_takes (h : sb_MT t n a base s) {c : Nat} : F_Mo_takes (sb_n c) s = some (if sb_nc t n a = sb_n c then (sb_n 1, ss_setI s 187 25 (sb_n (a + 1))) else (sb_n 0, s)) := by
  unfold F_Mo_takes
  rw [sb_next_M h]
  simp only [Option.bind, sb_lit, ss_let, h.2.2.2.1, sb_n_add]
  by_cases q : sb_nc t n a = sb_n c
  · rw [if_pos q, if_pos q]
  · rw [if_neg q, if_neg q]
theorem sb_Mo_in (x lo hi : Int32) (s : sv_S) : F_Mo_in x lo hi s = some (sb_b (decide (¬ x < lo ∧ ¬ hi < x))) := by
  unfold F_Mo_in
  by_cases q : x < lo
  · rw [if_pos q, decide_eq_false (fun w => w.1 q)]; rfl
  · rw [if_neg q]
    by_cases q2 : hi < x
    · rw [if_pos q2, decide_eq_false (fun w => w.2 q2)]; rfl
    · rw [if_neg q2, decide_eq_true ⟨q, q2⟩]; rfl
theorem sb_Mo_isDigit (h : sb_MT t n a base s) : F_Mo_isDigit s = some (sb_b (sb_dg (sb_nc t n a))) := by
  unfold F_Mo_isDigit
  rw [sb_next_M h, Option.bind_some, sb_Mo_in, Option.bind_some, if_pos sb_bl_b]
  congr 2
  unfold sb_dg
  refine decide_eq_decide.mpr ?_
  rw [show (48 : Int32) = sb_n 48 from rfl, show (57 : Int32) = sb_n 57 from rfl, sb_c_ltn (by omega), sb_n_ltc (by omega)]
  omega
theorem sb_Mo_num : ∀ (m f d a : Nat) (v : Int) (u : sv_S), d + m = 4 → m < f → sb_MT t n a base u → u.1 187 26 = sb_i v → sb_fr [187025, 187026] s u → sb_W (F_Mo_takesNumber_b16 f (sb_n d) u) (fun r => r.1 = sb_n 1 ∧ r.2.1 187 26 = sb_i (sb_num t n m a v).1 ∧ sb_MT t n (sb_num t n m a v).2 base r.2 ∧ sb_fr [187025, 187026] s r.2) := by
  intro m
  induction m with
  | zero =>
    intro f d a v u hd hf h hv hfr
    obtain ⟨f, rfl⟩ : ∃ g, f = g + 1 := ⟨f - 1, by omega⟩
    simp only [F_Mo_takesNumber_b16]
    refine sb_Wpos (by first | omega | (simp (disch := omega) only [sb_lit, sb_n_add, sb_n_mul, sb_n_ix, sb_n_lt, sb_n_le, sb_n_eq, sb_ib_n] <;> omega)) ?_
    exact sb_Wsome ⟨rfl, hv, h, hfr⟩
  | succ m ih =>
    intro f d a v u hd hf h hv hfr
    obtain ⟨f, rfl⟩ : ∃ g, f = g + 1 := ⟨f - 1, by omega⟩
    simp only [F_Mo_takesNumber_b16, sb_num]
    refine sb_Wneg (by first | omega | (simp (disch := omega) only [sb_lit, sb_n_add, sb_n_mul, sb_n_ix, sb_n_lt, sb_n_le, sb_n_eq, sb_ib_n] <;> omega)) ?_
    rw [sb_Mo_isDigit h]
    refine sb_Wbind (sb_Wsome ?_)
    simp only [sb_lit, sb_b0]
    by_cases q : sb_dg (sb_nc t n a) = true
    · have hlt := sb_dg_lt q
      rw [if_pos q, if_neg (by rw [q]; decide), sb_next_M h]
      refine sb_Wbind (sb_Wsome (sb_Wlet (sb_Wlet (sb_Wlet ?_))))
      have ev : sb_n 10 * u.1 187 26 + sb_nc t n a - sb_n 48 = sb_i (10 * v + (sb_nc t n a).toInt - 48) := by
        rw [hv, sb_n_i, sb_n_i, sb_i_mul]
        conv => lhs; rw [sb_i_of (sb_nc t n a)]
        rw [sb_i_add, sb_i_sub]; rfl
      rw [ev]
      have e25 : ∀ w, (ss_setI u 187 26 w).1 187 25 = sb_n a := fun w => (sb_set_ne (by omega)).trans h.2.2.2.1
      rw [e25]
      simp (disch := omega) only [sb_lit, sb_n_add, sb_n_mul, sb_n_ix, sb_n_lt, sb_n_le, sb_n_eq, sb_ib_n]
      refine ih f (d + 1) (a + 1) _ _ (by omega) (by omega) (sb_MT_at (sb_MT_fr (L := [187026]) h (sb_fr_set (sb_fr_refl _ _) rfl) (by decide)) (by omega)) ((sb_set_ne (by omega)).trans sb_set_eq) (sb_fr_set (sb_fr_set hfr rfl) rfl)
    · have q' : sb_dg (sb_nc t n a) = false := by simpa using q
      rw [if_neg q, if_pos q']
      exact sb_Wsome ⟨rfl, hv, h, hfr⟩
theorem sb_Mo_takesNumber (h : sb_MT t n a base s) : sb_W (F_Mo_takesNumber s) (fun r => r.1 = sb_b (sb_dg (sb_nc t n a)) ∧ sb_fr [187025, 187026] s r.2 ∧ sb_MT t n (sb_no t n 4 a).2 base r.2 ∧ (sb_dg (sb_nc t n a) = true → r.2.1 187 26 = sb_i (sb_no t n 4 a).1)) := by
  unfold F_Mo_takesNumber sb_no
  rw [sb_Mo_isDigit h]
  refine sb_Wbind (sb_Wsome ?_)
  simp only [sb_lit, sb_b0]
  by_cases q : sb_dg (sb_nc t n a) = true
  · rw [if_pos q, if_neg (by rw [q]; decide)]
    refine sb_Wlet ?_
    refine sb_Wmono (sb_Mo_num (s := s) 4 ss_F 0 a 0 _ (by omega) (by unfold ss_F; omega) (sb_MT_fr (L := [187026]) h (sb_fr_set (sb_fr_refl _ _) rfl) (by decide)) (by rw [sb_set_eq]; exact sb_n_i 0) (sb_fr_set (sb_fr_refl _ _) rfl)) (fun r hr => ?_)
    exact ⟨by rw [hr.1, q]; rfl, hr.2.2.2, hr.2.2.1, fun _ => hr.2.1⟩
  · have q' : sb_dg (sb_nc t n a) = false := by simpa using q
    rw [if_neg q, if_pos q']
    exact sb_Wsome ⟨by rw [q']; rfl, sb_fr_refl _ _, h, fun w => absurd w q⟩
/-- laying on -/
theorem sb_Mo_push : ∀ (W : List Int32) (f : Nat) (v : Bool) (u : sv_S), W.length < f → P.length < a → sb_ME t n a base W P u → sb_fr sb_ZE s u → sb_W (F_Mo_push_b2 f (sb_b v) u) (fun r => sb_ME t n a base (sb_pn W v).2 ((sb_pn W v).1 :: P) r ∧ sb_fr sb_ZE s r) := by
  have b58 : ∀ (W : List Int32) (v : Bool) (u : sv_S), P.length < a → sb_ME t n a base W P u → sb_fr sb_ZE s u → sb_W (F_Mo_push_b58 (sb_b v) u) (fun r => sb_ME t n a base W (v :: P) r ∧ sb_fr sb_ZE s r) := by
    intro W v u hP h hf
    have hb := h.1.1
    have h30 := h.2.2.2.2.1
    unfold F_Mo_push_b58
    rw [h30]
    refine sb_Wpos (by first | omega | (simp (disch := omega) only [sb_lit, sb_n_add, sb_n_mul, sb_n_ix, sb_n_lt, sb_n_le, sb_n_eq, sb_ib_n] <;> omega)) ?_
    refine sb_Wlet (sb_Wlet (sb_Wsome ⟨?_, sb_fr_set (sb_fr_set hf rfl) rfl⟩))
    simp (disch := omega) only [sb_lit, sb_n_add, sb_n_mul, sb_n_ix, sb_n_lt, sb_n_le, sb_n_eq, sb_ib_n]
    have e : (ss_setI u 204 P.length (sb_b v &&& 1)).1 187 30 = sb_n P.length := (sb_set_ne (by omega)).trans h30
    have e2 : sb_b v &&& 1 = sb_b v := by cases v <;> decide
    rw [e2] at e
    have e3 : (sb_b v &&& sb_n 1) = sb_b v := e2
    rw [e3, e, sb_n_add]
    refine ⟨sb_MT_fr (L := [204, 187030]) h.1 (sb_fr_set (sb_fr_set (sb_fr_refl _ _) rfl) rfl) (by decide), ⟨h.2.1.1, by simp; omega⟩, ?_, ?_, sb_set_eq, ⟨?_, ?_⟩, ?_⟩
    · rw [sb_set_ne (by omega), sb_set_ne (by omega)]; exact h.2.2.1
    · exact sb_sk_up _ (fun i _ => by rw [sb_set_ne (by omega), sb_set_ne (by omega)]) h.2.2.2.1
    · rw [sb_set_ne (by omega), sb_set_eq]
    · exact sb_skb_up _ (fun i hi => by rw [sb_set_ne (by omega), sb_set_ne (by omega)]) h.2.2.2.2.2.1
    · rw [sb_set_ne (by omega), sb_set_ne (by omega)]; exact h.2.2.2.2.2.2
  intro W
  induction W with
  | nil =>
    intro f v u hf hP h hfr
    obtain ⟨f, rfl⟩ : ∃ g, f = g + 1 := ⟨f - 1, by omega⟩
    have h29 := h.2.2.1
    simp only [F_Mo_push_b2, sb_pn]
    rw [h29]
    refine sb_Wpos (by first | omega | (simp (disch := omega) only [sb_lit, sb_n_add, sb_n_mul, sb_n_ix, sb_n_lt, sb_n_le, sb_n_eq, sb_ib_n, List.length_nil] <;> omega)) ?_
    exact b58 [] v u hP h hfr
  | cons x W ih =>
    intro f v u hf hP h hfr
    obtain ⟨f, rfl⟩ : ∃ g, f = g + 1 := ⟨f - 1, by omega⟩
    have h29 := h.2.2.1
    have hb := h.1.1
    have hW := h.2.1.1
    rw [List.length_cons] at h29 hW hf
    have top := h.2.2.2.1.1
    have sub1 : sb_n (W.length + 1) - (1 : Int32) = sb_n W.length := sb_sub1 _
    simp only [F_Mo_push_b2, sb_pn]
    rw [h29, sub1]
    refine sb_Wneg (by first | omega | (simp (disch := omega) only [sb_lit, sb_n_add, sb_n_mul, sb_n_ix, sb_n_lt, sb_n_le, sb_n_eq, sb_ib_n] <;> omega)) ?_
    refine sb_Wpos (by first | omega | (simp (disch := omega) only [sb_lit, sb_n_add, sb_n_mul, sb_n_ix, sb_n_lt, sb_n_le, sb_n_eq, sb_ib_n] <;> omega)) ?_
    rw [sb_n_ix (by omega), top]
    by_cases q : x = sb_n 33
    · rw [if_pos q]
      refine sb_Wpos q ?_
      have go : sb_W (F_Mo_push_b34 (F_Mo_push_b2 f) (sb_b (!v)) u) (fun r => sb_ME t n a base (sb_pn W (!v)).2 ((sb_pn W (!v)).1 :: P) r ∧ sb_fr sb_ZE s r) := by
        unfold F_Mo_push_b34
        refine sb_Wlet ?_
        rw [h29, sub1]
        have e31 : (ss_setI u 187 29 (sb_n W.length)).1 187 31 = sb_n (sb_op (x :: W)) := (sb_set_ne (by omega)).trans h.2.2.2.2.2.2
        have eo : sb_op (x :: W) = sb_op W + 1 := by simp only [sb_op]; rw [if_pos (Or.inl q)]; omega
        have := sb_op_le W
        have sub2 : sb_n (sb_op W + 1) - (1 : Int32) = sb_n (sb_op W) := sb_sub1 _
        refine sb_Wlet ?_
        rw [e31, eo, sub2]
        refine ih f (!v) _ (by omega) hP ⟨sb_MT_fr (L := [187029, 187031]) h.1 (sb_fr_set (sb_fr_set (sb_fr_refl _ _) rfl) rfl) (by decide), ⟨by omega, h.2.1.2⟩, ?_, ?_, ?_, ?_, sb_set_eq⟩ (sb_fr_set (sb_fr_set hfr rfl) rfl)
        · rw [sb_set_ne (by omega), sb_set_eq]
        · exact sb_sk_up _ (fun i _ => by rw [sb_set_ne (by omega), sb_set_ne (by omega)]) h.2.2.2.1.2
        · rw [sb_set_ne (by omega), sb_set_ne (by omega)]; exact h.2.2.2.2.1
        · exact sb_skb_up _ (fun i hi => by rw [sb_set_ne (by omega), sb_set_ne (by omega)]) h.2.2.2.2.2.1
      cases v with
      | false => exact sb_Wpos (by decide) go
      | true => exact sb_Wneg (by decide) go
    · rw [if_neg q]
      exact sb_Wneg q (b58 _ v u hP h hfr)
end ME
