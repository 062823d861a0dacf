/-! the model's reader of expressions -/
def zb_MT (t : Nat → Int32) (n a base : Nat) (s : sv_S) : Prop := (n ≤ 140 ∧ a ≤ n ∧ base ≤ 2240) ∧ s.1 187 23 = zb_n base ∧ s.1 187 24 = zb_n n ∧ s.1 187 25 = zb_n a ∧ ∀ i, i < n → s.1 197 (base + i) = t i
def zb_sk (f : Nat → Int32) : List Int32 → Prop
  | [] => True
  | x :: l => f l.length = x ∧ zb_sk f l
def zb_skb (f : Nat → Int32) : List Bool → Prop
  | [] => True
  | x :: l => f l.length = zb_b x ∧ zb_skb f l
theorem zb_sk_up {f g : Nat → Int32} : ∀ (l : List Int32), (∀ i, i < l.length → g i = f i) → zb_sk f l → zb_sk g l
  | [], _, _ => trivial
  | x :: l, e, h => ⟨(e _ (by simp)).trans h.1, zb_sk_up l (fun i hi => e i (by simp; omega)) h.2⟩
theorem zb_skb_up {f g : Nat → Int32} : ∀ (l : List Bool), (∀ i, i < l.length → g i = f i) → zb_skb f l → zb_skb g l
  | [], _, _ => trivial
  | x :: l, e, h => ⟨(e _ (by simp)).trans h.1, zb_skb_up l (fun i hi => e i (by simp; omega)) h.2⟩
/-- how many are open -/
def zb_op : List Int32 → Nat
  | [] => 0
  | x :: l => (if x = zb_n 33 ∨ x = zb_n 40 then 1 else 0) + zb_op l
theorem zb_op_le : ∀ l, zb_op l ≤ l.length
  | [] => by simp [zb_op]
  | x :: l => by have := zb_op_le l; simp only [zb_op, List.length_cons]; split <;> omega
def zb_ME (t : Nat → Int32) (n a base : Nat) (W : List Int32) (P : List Bool) (s : sv_S) : Prop :=
  zb_MT t n a base s ∧ (W.length ≤ a ∧ P.length ≤ a) ∧ s.1 187 29 = zb_n W.length ∧ zb_sk (s.1 203) W ∧ s.1 187 30 = zb_n P.length ∧ zb_skb (s.1 204) P ∧ s.1 187 31 = zb_n (zb_op W)
/-- what is laid on: the '!' that wait are done at once -/
def zb_pn : List Int32 → Bool → Bool × List Int32
  | [], v => (v, [])
  | x :: W, v => if x = zb_n 33 then zb_pn W (!v) else (v, x :: W)
def zb_ZE : List Nat := [187025, 187026, 187029, 187030, 187031, 203, 204]
section ME
variable {t : Nat → Int32} {n a base : Nat} {s : sv_S} {W : List Int32} {P : List Bool}
theorem zb_next_M (h : zb_MT t n a base s) : F_Mo_next s = some (zb_nc t n a) := by
  obtain ⟨⟨b1, b2, b3⟩, h1, h2, h3, h4⟩ := h
  unfold F_Mo_next zb_nc
  rw [zb_m1]
  simp (disch := omega) only [zb_lit, zb_n_add, zb_n_mul, zb_n_ix, zb_n_lt, zb_n_le, zb_n_eq, zb_ib_n, h1, h2, h3]
  by_cases q : a < n
  · rw [if_neg (by omega), if_pos (by omega), if_pos q, h4 a q]
  · rw [if_pos (by omega), if_neg q]
theorem zb_MT_fr {L : List Nat} {u : sv_S} (h : zb_MT t n a base s) (hf : zb_fr L s u) (hL : [187023, 187024, 187025, 197].all (fun x => !L.contains x) = true) : zb_MT t n a base u := by
  have k : ∀ x, x ∈ [187023, 187024, 187025, 197] → L.contains x = false := fun x hx => by have := List.all_eq_true.mp hL x hx; simpa using this
  refine ⟨h.1, ?_, ?_, ?_, fun i hi => ?_⟩
  · rw [hf.1 187 23 (k 187023 (by decide))]; exact h.2.1
  · rw [hf.1 187 24 (k 187024 (by decide))]; exact h.2.2.1
  · rw [hf.1 187 25 (k 187025 (by decide))]; exact h.2.2.2.1
  · rw [hf.1 197 _ (k 197 (by decide))]; exact h.2.2.2.2 i hi
theorem zb_MT_at {b : Nat} (h : zb_MT t n a base s) (hb : b ≤ n) : zb_MT t n b base (ss_setI s 187 25 (zb_n b)) :=
  ⟨⟨h.1.1, hb, h.1.2.2⟩, (zb_set_ne (by omega)).trans h.2.1, (zb_set_ne (by omega)).trans h.2.2.1, zb_set_eq, fun i hi => (zb_set_ne (by omega)).trans (h.2.2.2.2 i hi)⟩
theorem zb_Mo_takes (h : zb_MT t n a base s) {c : Nat} : F_Mo_takes (zb_n c) s = some (if zb_nc t n a = zb_n c then (zb_n 1, ss_setI s 187 25 (zb_n (a + 1))) else (zb_n 0, s)) := by
  unfold F_Mo_takes
  rw [zb_next_M h]
  simp only [Option.bind, zb_lit, ss_let, h.2.2.2.1, zb_n_add]
  by_cases q : zb_nc t n a = zb_n c
  · rw [if_pos q, if_pos q]
  · rw [if_neg q, if_neg q]
theorem zb_Mo_in (x lo hi : Int32) (s : sv_S) : F_Mo_in x lo hi s = some (zb_b (decide (¬ x < lo ∧ ¬ hi < x))) := by
  unfold F_Mo_in
  by_cases q : x < lo
  · rw [if_pos q, decide_eq_false (fun w => w.1 q)]; rfl
  · rw [if_neg q]
    by_cases q2 : hi < x
    · rw [if_pos q2, decide_eq_false (fun w => w.2 q2)]; rfl
    · rw [if_neg q2, decide_eq_true ⟨q, q2⟩]; rfl
theorem zb_Mo_isDigit (h : zb_MT t n a base s) : F_Mo_isDigit s = some (zb_b (zb_dg (zb_nc t n a))) := by
  unfold F_Mo_isDigit
  rw [zb_next_M h, Option.bind_some, zb_Mo_in, Option.bind_some, if_pos zb_bl_b]
  congr 2
  unfold zb_dg
  refine decide_eq_decide.mpr ?_
  rw [show (48 : Int32) = zb_n 48 from rfl, show (57 : Int32) = zb_n 57 from rfl, zb_c_ltn (by omega), zb_n_ltc (by omega)]
  omega
theorem zb_Mo_num : ∀ (m f d a : Nat) (v : Int) (u : sv_S), d + m = 4 → m < f → zb_MT t n a base u → u.1 187 26 = zb_i v → zb_fr [187025, 187026] s u → zb_W (F_Mo_takesNumber_b16 f (zb_n d) u) (fun r => r.1 = zb_n 1 ∧ r.2.1 187 26 = zb_i (zb_num t n m a v).1 ∧ zb_MT t n (zb_num t n m a v).2 base r.2 ∧ zb_fr [187025, 187026] s r.2) := by
  intro m
  induction m with
  | zero =>
    intro f d a v u hd hf h hv hfr
    obtain ⟨f, rfl⟩ : ∃ g, f = g + 1 := ⟨f - 1, by omega⟩
    simp only [F_Mo_takesNumber_b16]
    refine zb_Wpos (by first | omega | (simp (disch := omega) only [zb_lit, zb_n_add, zb_n_mul, zb_n_ix, zb_n_lt, zb_n_le, zb_n_eq, zb_ib_n] <;> omega)) ?_
    exact zb_Wsome ⟨rfl, hv, h, hfr⟩
  | succ m ih =>
    intro f d a v u hd hf h hv hfr
    obtain ⟨f, rfl⟩ : ∃ g, f = g + 1 := ⟨f - 1, by omega⟩
    simp only [F_Mo_takesNumber_b16, zb_num]
    refine zb_Wneg (by first | omega | (simp (disch := omega) only [zb_lit, zb_n_add, zb_n_mul, zb_n_ix, zb_n_lt, zb_n_le, zb_n_eq, zb_ib_n] <;> omega)) ?_
    rw [zb_Mo_isDigit h]
    refine zb_Wbind (zb_Wsome ?_)
    simp only [zb_lit, zb_b0]
    by_cases q : zb_dg (zb_nc t n a) = true
    · have hlt := zb_dg_lt q
      rw [if_pos q, if_neg (by rw [q]; decide), zb_next_M h]
      refine zb_Wbind (zb_Wsome (zb_Wlet (zb_Wlet (zb_Wlet ?_))))
      have ev : zb_n 10 * u.1 187 26 + zb_nc t n a - zb_n 48 = zb_i (10 * v + (zb_nc t n a).toInt - 48) := by
        rw [hv, zb_n_i, zb_n_i, zb_i_mul]
        conv => lhs; rw [zb_i_of (zb_nc t n a)]
        rw [zb_i_add, zb_i_sub]; rfl
      rw [ev]
      have e25 : ∀ w, (ss_setI u 187 26 w).1 187 25 = zb_n a := fun w => (zb_set_ne (by omega)).trans h.2.2.2.1
      rw [e25]
      simp (disch := omega) only [zb_lit, zb_n_add, zb_n_mul, zb_n_ix, zb_n_lt, zb_n_le, zb_n_eq, zb_ib_n]
      refine ih f (d + 1) (a + 1) _ _ (by omega) (by omega) (zb_MT_at (zb_MT_fr (L := [187026]) h (zb_fr_set (zb_fr_refl _ _) rfl) (by decide)) (by omega)) ((zb_set_ne (by omega)).trans zb_set_eq) (zb_fr_set (zb_fr_set hfr rfl) rfl)
    · have q' : zb_dg (zb_nc t n a) = false := by simpa using q
      rw [if_neg q, if_pos q']
      exact zb_Wsome ⟨rfl, hv, h, hfr⟩
theorem zb_Mo_takesNumber (h : zb_MT t n a base s) : zb_W (F_Mo_takesNumber s) (fun r => r.1 = zb_b (zb_dg (zb_nc t n a)) ∧ zb_fr [187025, 187026] s r.2 ∧ zb_MT t n (zb_no t n 4 a).2 base r.2 ∧ (zb_dg (zb_nc t n a) = true → r.2.1 187 26 = zb_i (zb_no t n 4 a).1)) := by
  unfold F_Mo_takesNumber zb_no
  rw [zb_Mo_isDigit h]
  refine zb_Wbind (zb_Wsome ?_)
  simp only [zb_lit, zb_b0]
  by_cases q : zb_dg (zb_nc t n a) = true
  · rw [if_pos q, if_neg (by rw [q]; decide)]
    refine zb_Wlet ?_
    refine zb_Wmono (zb_Mo_num (s := s) 4 ss_F 0 a 0 _ (by omega) (by unfold ss_F; omega) (zb_MT_fr (L := [187026]) h (zb_fr_set (zb_fr_refl _ _) rfl) (by decide)) (by rw [zb_set_eq]; exact zb_n_i 0) (zb_fr_set (zb_fr_refl _ _) rfl)) (fun r hr => ?_)
    exact ⟨by rw [hr.1, q]; rfl, hr.2.2.2, hr.2.2.1, fun _ => hr.2.1⟩
  · have q' : zb_dg (zb_nc t n a) = false := by simpa using q
    rw [if_neg q, if_pos q']
    exact zb_Wsome ⟨by rw [q']; rfl, zb_fr_refl _ _, h, fun w => absurd w q⟩
/-- laying on -/
theorem zb_Mo_push : ∀ (W : List Int32) (f : Nat) (v : Bool) (u : sv_S), W.length < f → P.length < a → zb_ME t n a base W P u → zb_fr zb_ZE s u → zb_W (F_Mo_push_b2 f (zb_b v) u) (fun r => zb_ME t n a base (zb_pn W v).2 ((zb_pn W v).1 :: P) r ∧ zb_fr zb_ZE s r) := by
  have b58 : ∀ (W : List Int32) (v : Bool) (u : sv_S), P.length < a → zb_ME t n a base W P u → zb_fr zb_ZE s u → zb_W (F_Mo_push_b58 (zb_b v) u) (fun r => zb_ME t n a base W (v :: P) r ∧ zb_fr zb_ZE s r) := by
    intro W v u hP h hf
    have hb := h.1.1
    have h30 := h.2.2.2.2.1
    unfold F_Mo_push_b58
    rw [h30]
    refine zb_Wpos (by first | omega | (simp (disch := omega) only [zb_lit, zb_n_add, zb_n_mul, zb_n_ix, zb_n_lt, zb_n_le, zb_n_eq, zb_ib_n] <;> omega)) ?_
    refine zb_Wlet (zb_Wlet (zb_Wsome ⟨?_, zb_fr_set (zb_fr_set hf rfl) rfl⟩))
    simp (disch := omega) only [zb_lit, zb_n_add, zb_n_mul, zb_n_ix, zb_n_lt, zb_n_le, zb_n_eq, zb_ib_n]
    have e : (ss_setI u 204 P.length (zb_b v &&& 1)).1 187 30 = zb_n P.length := (zb_set_ne (by omega)).trans h30
    have e2 : zb_b v &&& 1 = zb_b v := by cases v <;> decide
    rw [e2] at e
    have e3 : (zb_b v &&& zb_n 1) = zb_b v := e2
    rw [e3, e, zb_n_add]
    refine ⟨zb_MT_fr (L := [204, 187030]) h.1 (zb_fr_set (zb_fr_set (zb_fr_refl _ _) rfl) rfl) (by decide), ⟨h.2.1.1, by simp; omega⟩, ?_, ?_, zb_set_eq, ⟨?_, ?_⟩, ?_⟩
    · rw [zb_set_ne (by omega), zb_set_ne (by omega)]; exact h.2.2.1
    · exact zb_sk_up _ (fun i _ => by rw [zb_set_ne (by omega), zb_set_ne (by omega)]) h.2.2.2.1
    · rw [zb_set_ne (by omega), zb_set_eq]
    · exact zb_skb_up _ (fun i hi => by rw [zb_set_ne (by omega), zb_set_ne (by omega)]) h.2.2.2.2.2.1
    · rw [zb_set_ne (by omega), zb_set_ne (by omega)]; exact h.2.2.2.2.2.2
  intro W
  induction W with
  | nil =>
    intro f v u hf hP h hfr
    obtain ⟨f, rfl⟩ : ∃ g, f = g + 1 := ⟨f - 1, by omega⟩
    have h29 := h.2.2.1
    simp only [F_Mo_push_b2, zb_pn]
    rw [h29]
    refine zb_Wpos (by first | omega | (simp (disch := omega) only [zb_lit, zb_n_add, zb_n_mul, zb_n_ix, zb_n_lt, zb_n_le, zb_n_eq, zb_ib_n, List.length_nil] <;> omega)) ?_
    exact b58 [] v u hP h hfr
  | cons x W ih =>
    intro f v u hf hP h hfr
    obtain ⟨f, rfl⟩ : ∃ g, f = g + 1 := ⟨f - 1, by omega⟩
    have h29 := h.2.2.1
    have hb := h.1.1
    have hW := h.2.1.1
    rw [List.length_cons] at h29 hW hf
    have top := h.2.2.2.1.1
    have sub1 : zb_n (W.length + 1) - (1 : Int32) = zb_n W.length := zb_sub1 _
    simp only [F_Mo_push_b2, zb_pn]
    rw [h29, sub1]
    refine zb_Wneg (by first | omega | (simp (disch := omega) only [zb_lit, zb_n_add, zb_n_mul, zb_n_ix, zb_n_lt, zb_n_le, zb_n_eq, zb_ib_n] <;> omega)) ?_
    refine zb_Wpos (by first | omega | (simp (disch := omega) only [zb_lit, zb_n_add, zb_n_mul, zb_n_ix, zb_n_lt, zb_n_le, zb_n_eq, zb_ib_n] <;> omega)) ?_
    rw [zb_n_ix (by omega), top]
    by_cases q : x = zb_n 33
    · rw [if_pos q]
      refine zb_Wpos q ?_
      have go : zb_W (F_Mo_push_b34 (F_Mo_push_b2 f) (zb_b (!v)) u) (fun r => zb_ME t n a base (zb_pn W (!v)).2 ((zb_pn W (!v)).1 :: P) r ∧ zb_fr zb_ZE s r) := by
        unfold F_Mo_push_b34
        refine zb_Wlet ?_
        rw [h29, sub1]
        have e31 : (ss_setI u 187 29 (zb_n W.length)).1 187 31 = zb_n (zb_op (x :: W)) := (zb_set_ne (by omega)).trans h.2.2.2.2.2.2
        have eo : zb_op (x :: W) = zb_op W + 1 := by simp only [zb_op]; rw [if_pos (Or.inl q)]; omega
        have := zb_op_le W
        have sub2 : zb_n (zb_op W + 1) - (1 : Int32) = zb_n (zb_op W) := zb_sub1 _
        refine zb_Wlet ?_
        rw [e31, eo, sub2]
        refine ih f (!v) _ (by omega) hP ⟨zb_MT_fr (L := [187029, 187031]) h.1 (zb_fr_set (zb_fr_set (zb_fr_refl _ _) rfl) rfl) (by decide), ⟨by omega, h.2.1.2⟩, ?_, ?_, ?_, ?_, zb_set_eq⟩ (zb_fr_set (zb_fr_set hfr rfl) rfl)
        · rw [zb_set_ne (by omega), zb_set_eq]
        · exact zb_sk_up _ (fun i _ => by rw [zb_set_ne (by omega), zb_set_ne (by omega)]) h.2.2.2.1.2
        · rw [zb_set_ne (by omega), zb_set_ne (by omega)]; exact h.2.2.2.2.1
        · exact zb_skb_up _ (fun i hi => by rw [zb_set_ne (by omega), zb_set_ne (by omega)]) h.2.2.2.2.2.1
      cases v with
      | false => exact zb_Wpos (by decide) go
      | true => exact zb_Wneg (by decide) go
    · rw [if_neg q]
      exact zb_Wneg q (b58 _ v u hP h hfr)
end ME
