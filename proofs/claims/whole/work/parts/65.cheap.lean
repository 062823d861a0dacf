/-! least sums over several rates -/
def sb_mu : Int := 1000000000
def sb_Em (f : Nat → Int) (Fr To : Nat → Nat) (g : Nat → Int) : Nat → Nat → Int
  | 0, _ => sb_mu
  | r + 1, s => if 0 ≤ f r ∧ Fr r = s ∧ g (To r) < sb_mu ∧ f r + g (To r) < sb_Em f Fr To g r s then f r + g (To r) else sb_Em f Fr To g r s
def sb_Sm (f : Nat → Int) (Fr To : Nat → Nat) (g : Nat → Int) : Nat → Nat → Int
  | 0, s => g s
  | r + 1, s => if 0 ≤ f r ∧ Fr r = s ∧ f r + g (To r) < sb_Sm f Fr To g r s then f r + g (To r) else sb_Sm f Fr To g r s
def sb_E (f : Nat → Int) (Fr To : Nat → Nat) (Q b : Nat) : Nat → Nat → Int
  | 0, s => if s = b then 0 else sb_mu
  | n + 1, s => sb_Em f Fr To (sb_E f Fr To Q b n) Q s
def sb_Sx (f : Nat → Int) (Fr To : Nat → Nat) (Q b : Nat) : Nat → Nat → Int
  | 0, s => if s = b then 0 else sb_mu
  | n + 1, s => sb_Sm f Fr To (sb_Sx f Fr To Q b n) Q s
section CH
variable {f : Nat → Int} {Fr To : Nat → Nat} {g : Nat → Int} {Q b : Nat}
theorem sb_Em_le : ∀ (k s : Nat), sb_Em f Fr To g k s ≤ sb_mu
  | 0, s => Int.le_refl _
  | k + 1, s => by have := sb_Em_le k s; simp only [sb_Em]; split <;> omega
theorem sb_Em_at : ∀ (k s r : Nat), r < k → 0 ≤ f r → Fr r = s → g (To r) < sb_mu → sb_Em f Fr To g k s ≤ f r + g (To r)
  | 0, s, r, h, _, _, _ => by omega
  | k + 1, s, r, h, h1, h2, h3 => by
    simp only [sb_Em]
    by_cases e : r = k
    · subst e; split <;> omega
    · have := sb_Em_at k s r (by omega) h1 h2 h3
      split <;> omega
theorem sb_Em_ex : ∀ (k s : Nat), sb_Em f Fr To g k s = sb_mu ∨ ∃ r, r < k ∧ 0 ≤ f r ∧ Fr r = s ∧ g (To r) < sb_mu ∧ sb_Em f Fr To g k s = f r + g (To r)
  | 0, s => Or.inl rfl
  | k + 1, s => by
    simp only [sb_Em]
    split
    · next q => exact Or.inr ⟨k, by omega, q.1, q.2.1, q.2.2.1, rfl⟩
    · rcases sb_Em_ex k s with h | ⟨r, h1, h2⟩
      · exact Or.inl h
      · exact Or.inr ⟨r, by omega, h2⟩
theorem sb_Sm_le : ∀ (k s : Nat), sb_Sm f Fr To g k s ≤ g s
  | 0, s => Int.le_refl _
  | k + 1, s => by have := sb_Sm_le k s; simp only [sb_Sm]; split <;> omega
theorem sb_Sm_at : ∀ (k s r : Nat), r < k → 0 ≤ f r → Fr r = s → sb_Sm f Fr To g k s ≤ f r + g (To r)
  | 0, s, r, h, _, _ => by omega
  | k + 1, s, r, h, h1, h2 => by
    simp only [sb_Sm]
    by_cases e : r = k
    · subst e; split <;> omega
    · have := sb_Sm_at k s r (by omega) h1 h2
      split <;> omega
theorem sb_Sm_ex : ∀ (k s : Nat), sb_Sm f Fr To g k s = g s ∨ ∃ r, r < k ∧ 0 ≤ f r ∧ Fr r = s ∧ sb_Sm f Fr To g k s = f r + g (To r)
  | 0, s => Or.inl rfl
  | k + 1, s => by
    simp only [sb_Sm]
    split
    · next q => exact Or.inr ⟨k, by omega, q.1, q.2.1, rfl⟩
    · rcases sb_Sm_ex k s with h | ⟨r, h1, h2⟩
      · exact Or.inl h
      · exact Or.inr ⟨r, by omega, h2⟩
theorem sb_E_mu : ∀ n s, 0 ≤ sb_E f Fr To Q b n s ∧ sb_E f Fr To Q b n s ≤ sb_mu
  | 0, s => by simp only [sb_E, sb_mu]; split <;> omega
  | n + 1, s => by
    simp only [sb_E]
    refine ⟨?_, sb_Em_le _ _⟩
    rcases sb_Em_ex (f := f) (Fr := Fr) (To := To) (g := sb_E f Fr To Q b n) Q s with h | ⟨r, _, h2, _, _, h5⟩
    · rw [h]; unfold sb_mu; omega
    · have := (sb_E_mu n (To r)).1; omega
theorem sb_Sx_mu : ∀ n s, 0 ≤ sb_Sx f Fr To Q b n s ∧ sb_Sx f Fr To Q b n s ≤ sb_mu
  | 0, s => by simp only [sb_Sx, sb_mu]; split <;> omega
  | n + 1, s => by
    simp only [sb_Sx]
    have i := sb_Sx_mu n
    refine ⟨?_, Int.le_trans (sb_Sm_le _ _) (i s).2⟩
    rcases sb_Sm_ex (f := f) (Fr := Fr) (To := To) (g := sb_Sx f Fr To Q b n) Q s with h | ⟨r, _, h2, _, h5⟩
    · rw [h]; exact (i s).1
    · have := (i (To r)).1; omega
theorem sb_Sx_mono {n m s : Nat} (h : n ≤ m) : sb_Sx f Fr To Q b m s ≤ sb_Sx f Fr To Q b n s := by
  induction m with
  | zero => rw [show n = 0 by omega]; exact Int.le_refl _
  | succ m ih =>
    by_cases e : n = m + 1
    · rw [e]; exact Int.le_refl _
    · exact Int.le_trans (sb_Sm_le Q s) (ih (by omega))
/-- at most so many, and just so many -/
theorem sb_SE : ∀ n s, (∀ m, m ≤ n → sb_Sx f Fr To Q b n s ≤ sb_E f Fr To Q b m s) ∧ ∃ m, m ≤ n ∧ sb_Sx f Fr To Q b n s = sb_E f Fr To Q b m s
  | 0, s => ⟨fun m hm => by rw [show m = 0 by omega]; exact Int.le_refl _, 0, Nat.le_refl _, rfl⟩
  | n + 1, s => by
    have i := sb_SE n
    have up : ∀ m, m ≤ n + 1 → sb_Sx f Fr To Q b (n + 1) s ≤ sb_E f Fr To Q b m s := by
      intro m hm
      by_cases e : m = n + 1
      · subst e
        rcases sb_Em_ex (f := f) (Fr := Fr) (To := To) (g := sb_E f Fr To Q b n) Q s with h | ⟨r, h1, h2, h3, h4, h5⟩
        · show _ ≤ sb_Em f Fr To (sb_E f Fr To Q b n) Q s
          rw [h]; exact (sb_Sx_mu _ _).2
        · show _ ≤ sb_Em f Fr To (sb_E f Fr To Q b n) Q s
          rw [h5]
          have a1 := sb_Sm_at (To := To) (g := sb_Sx f Fr To Q b n) Q s r h1 h2 h3
          have a2 := (i (To r)).1 n (Nat.le_refl _)
          have : sb_Sx f Fr To Q b (n + 1) s = sb_Sm f Fr To (sb_Sx f Fr To Q b n) Q s := rfl
          omega
      · exact Int.le_trans (sb_Sx_mono (by omega)) ((i s).1 m (by omega))
    refine ⟨up, ?_⟩
    rcases sb_Sm_ex (f := f) (Fr := Fr) (To := To) (g := sb_Sx f Fr To Q b n) Q s with h | ⟨r, h1, h2, h3, h5⟩
    · obtain ⟨m, m1, m2⟩ := (i s).2
      exact ⟨m, by omega, by show sb_Sm f Fr To (sb_Sx f Fr To Q b n) Q s = _; rw [h]; exact m2⟩
    · have e0 : sb_Sx f Fr To Q b (n + 1) s = f r + sb_Sx f Fr To Q b n (To r) := h5
      obtain ⟨m, m1, m2⟩ := (i (To r)).2
      by_cases q : sb_E f Fr To Q b m (To r) < sb_mu
      · have a1 := sb_Em_at (To := To) (g := sb_E f Fr To Q b m) Q s r h1 h2 h3 q
        have a2 := up (m + 1) (by omega)
        have e : sb_E f Fr To Q b (m + 1) s = sb_Em f Fr To (sb_E f Fr To Q b m) Q s := rfl
        exact ⟨m + 1, by omega, by omega⟩
      · obtain ⟨m', m1', m2'⟩ := (i s).2
        have b1 := sb_Sx_mono (f := f) (Fr := Fr) (To := To) (Q := Q) (b := b) (n := n) (m := n + 1) (s := s) (by omega)
        have b2 := (sb_Sx_mu (f := f) (Fr := Fr) (To := To) (Q := Q) (b := b) n s).2
        exact ⟨m', by omega, by omega⟩
/-- bounds: eight charges are far below much -/
theorem sb_Sx_rg (hf : ∀ r, r < Q → f r ≤ 4000000) : ∀ n s, sb_Sx f Fr To Q b n s = sb_mu ∨ sb_Sx f Fr To Q b n s ≤ 4000000 * n
  | 0, s => by simp only [sb_Sx]; split <;> simp
  | n + 1, s => by
    have i := sb_Sx_rg hf n
    have mu := sb_Sx_mu (f := f) (Fr := Fr) (To := To) (Q := Q) (b := b)
    have e0 : sb_Sx f Fr To Q b (n + 1) s = sb_Sm f Fr To (sb_Sx f Fr To Q b n) Q s := rfl
    rcases sb_Sm_ex (f := f) (Fr := Fr) (To := To) (g := sb_Sx f Fr To Q b n) Q s with h | ⟨r, h1, h2, h3, h5⟩
    · rcases i s with q | q
      · exact Or.inl (by rw [e0, h]; exact q)
      · right; rw [e0, h]; omega
    · have := hf r h1
      rcases i (To r) with q | q
      · have := (mu (n + 1) s).2
        left; omega
      · right; omega
theorem sb_E_rg (hf : ∀ r, r < Q → f r ≤ 4000000) : ∀ n s, sb_E f Fr To Q b n s = sb_mu ∨ sb_E f Fr To Q b n s ≤ 4000000 * n
  | 0, s => by simp only [sb_E]; split <;> simp
  | n + 1, s => by
    have i := sb_E_rg hf n
    have e0 : sb_E f Fr To Q b (n + 1) s = sb_Em f Fr To (sb_E f Fr To Q b n) Q s := rfl
    rcases sb_Em_ex (f := f) (Fr := Fr) (To := To) (g := sb_E f Fr To Q b n) Q s with h | ⟨r, h1, h2, h3, h4, h5⟩
    · exact Or.inl (by rw [e0, h])
    · have := hf r h1
      rcases i (To r) with q | q
      · omega
      · right; omega
/-- the first rate of a least sum: by exact sums, and by sums of at most so many -/
def sb_c1 (f : Nat → Int) (Fr To : Nat → Nat) (Q b n s r : Nat) : Bool := decide (0 ≤ f r ∧ Fr r = s ∧ sb_E f Fr To Q b n (To r) < sb_mu ∧ f r + sb_E f Fr To Q b n (To r) = sb_E f Fr To Q b (n + 1) s)
def sb_c2 (f : Nat → Int) (Fr To : Nat → Nat) (Q b n s r : Nat) : Bool := decide (0 ≤ f r ∧ Fr r = s ∧ f r + sb_Sx f Fr To Q b n (To r) = sb_Sx f Fr To Q b (n + 1) s)
/-- so many rates are just what a least sum needs -/
def sb_ju (f : Nat → Int) (Fr To : Nat → Nat) (Q b n s : Nat) : Prop := sb_Sx f Fr To Q b n s < sb_mu ∧ sb_Sx f Fr To Q b n s = sb_E f Fr To Q b n s ∧ ∀ m, m < n → sb_Sx f Fr To Q b n s < sb_Sx f Fr To Q b m s
theorem sb_ju_eq {n s r : Nat} (h : sb_ju f Fr To Q b (n + 1) s) (hr : r < Q) : sb_c1 f Fr To Q b n s r = sb_c2 f Fr To Q b n s r ∧ (sb_c2 f Fr To Q b n s r = true → sb_ju f Fr To Q b n (To r)) := by
  obtain ⟨h1, h2, h3⟩ := h
  have back : sb_c2 f Fr To Q b n s r = true → sb_ju f Fr To Q b n (To r) := by
    intro q
    unfold sb_c2 at q
    rw [decide_eq_true_eq] at q
    obtain ⟨q1, q2, q3⟩ := q
    have lt : sb_Sx f Fr To Q b n (To r) < sb_mu := by omega
    have key : ∀ m, m ≤ n → sb_Sx f Fr To Q b n (To r) = sb_E f Fr To Q b m (To r) → m = n := by
      intro m hm e
      by_cases w : m = n
      · exact w
      · have a1 := sb_Em_at (To := To) (g := sb_E f Fr To Q b m) Q s r hr q1 q2 (by omega)
        have a2 : sb_E f Fr To Q b (m + 1) s = sb_Em f Fr To (sb_E f Fr To Q b m) Q s := rfl
        have a3 := h3 (m + 1) (by omega)
        have a4 := (sb_SE (f := f) (Fr := Fr) (To := To) (Q := Q) (b := b) (m + 1) s).1 (m + 1) (Nat.le_refl _)
        omega
    obtain ⟨m, m1, m2⟩ := (sb_SE (f := f) (Fr := Fr) (To := To) (Q := Q) (b := b) n (To r)).2
    have mn := key m m1 m2
    subst mn
    refine ⟨lt, m2, fun k hk => ?_⟩
    have mo := sb_Sx_mono (f := f) (Fr := Fr) (To := To) (Q := Q) (b := b) (n := k) (m := m) (s := To r) (by omega)
    by_cases e : sb_Sx f Fr To Q b m (To r) = sb_Sx f Fr To Q b k (To r)
    · obtain ⟨j, j1, j2⟩ := (sb_SE (f := f) (Fr := Fr) (To := To) (Q := Q) (b := b) k (To r)).2
      have := key j (by omega) (by omega)
      omega
    · omega
  refine ⟨?_, back⟩
  cases c2 : sb_c2 f Fr To Q b n s r with
  | true =>
    have j := back c2
    unfold sb_c2 at c2
    rw [decide_eq_true_eq] at c2
    unfold sb_c1
    rw [decide_eq_true_eq]
    have j1 := j.1; have j2 := j.2.1
    exact ⟨c2.1, c2.2.1, by omega, by omega⟩
  | false =>
    unfold sb_c2 at c2
    rw [decide_eq_false_iff_not] at c2
    unfold sb_c1
    rw [decide_eq_false_iff_not]
    intro w
    refine c2 ⟨w.1, w.2.1, ?_⟩
    have a1 := sb_Sm_at (To := To) (g := sb_Sx f Fr To Q b n) Q s r hr w.1 w.2.1
    have a2 := (sb_SE (f := f) (Fr := Fr) (To := To) (Q := Q) (b := b) n (To r)).1 n (Nat.le_refl _)
    have a3 : sb_Sx f Fr To Q b (n + 1) s = sb_Sm f Fr To (sb_Sx f Fr To Q b n) Q s := rfl
    omega
theorem sb_c1_ex {n s : Nat} (h : sb_E f Fr To Q b (n + 1) s < sb_mu) : ∃ r, r < Q ∧ sb_c1 f Fr To Q b n s r = true := by
  rcases sb_Em_ex (f := f) (Fr := Fr) (To := To) (g := sb_E f Fr To Q b n) Q s with q | ⟨r, h1, h2, h3, h4, h5⟩
  · have : sb_E f Fr To Q b (n + 1) s = sb_mu := q
    omega
  · refine ⟨r, h1, ?_⟩
    unfold sb_c1
    rw [decide_eq_true_eq]
    exact ⟨h2, h3, h4, h5.symm⟩
/-- how many rates a least sum from a takes -/
def sb_cm (f : Nat → Int) (Fr To : Nat → Nat) (Q b a : Nat) : Nat := sb_ls (fun n => decide (sb_Sx f Fr To Q b n a = sb_Sx f Fr To Q b 8 a)) 9 0
theorem sb_cm_ok (a : Nat) : sb_cm f Fr To Q b a ≤ 8 ∧ sb_Sx f Fr To Q b (sb_cm f Fr To Q b a) a = sb_Sx f Fr To Q b 8 a ∧ ∀ m, m < sb_cm f Fr To Q b a → sb_Sx f Fr To Q b 8 a < sb_Sx f Fr To Q b m a := by
  obtain ⟨i1, _, i3, i4⟩ := sb_ls_ok (f := fun n => decide (sb_Sx f Fr To Q b n a = sb_Sx f Fr To Q b 8 a)) 9 0 8 (by omega) (by omega) (by simp)
  refine ⟨i3, of_decide_eq_true i1, fun m hm => ?_⟩
  have := of_decide_eq_false (i4 m (by omega) hm)
  have mo := sb_Sx_mono (f := f) (Fr := Fr) (To := To) (Q := Q) (b := b) (n := m) (m := 8) (s := a) (by have : sb_cm f Fr To Q b a ≤ 8 := i3; omega)
  omega
theorem sb_cm_ju {a : Nat} (h : sb_Sx f Fr To Q b 8 a < sb_mu) : sb_ju f Fr To Q b (sb_cm f Fr To Q b a) a := by
  obtain ⟨c1, c2, c3⟩ := sb_cm_ok (f := f) (Fr := Fr) (To := To) (Q := Q) (b := b) a
  refine ⟨by omega, ?_, fun m hm => by have := c3 m hm; omega⟩
  obtain ⟨m, m1, m2⟩ := (sb_SE (f := f) (Fr := Fr) (To := To) (Q := Q) (b := b) (sb_cm f Fr To Q b a) a).2
  by_cases e : m = sb_cm f Fr To Q b a
  · rw [e] at m2; exact m2
  · have a1 := c3 m (by omega)
    have a2 := (sb_SE (f := f) (Fr := Fr) (To := To) (Q := Q) (b := b) m a).1 m (Nat.le_refl _)
    omega
/-- which rate, and where one stands behind it -/
def sb_r1 (f : Nat → Int) (Fr To : Nat → Nat) (Q b n s : Nat) : Nat := sb_ls (sb_c2 f Fr To Q b (n - 1) s) Q 0
def sb_sq (f : Nat → Int) (Fr To : Nat → Nat) (Q b c a : Nat) : Nat → Nat
  | 0 => a
  | i + 1 => To (sb_r1 f Fr To Q b (c - i) (sb_sq f Fr To Q b c a i))
theorem sb_r1_ok {n s : Nat} (h : sb_ju f Fr To Q b (n + 1) s) : sb_r1 f Fr To Q b (n + 1) s < Q ∧ sb_c2 f Fr To Q b n s (sb_r1 f Fr To Q b (n + 1) s) = true ∧ (∀ i, i < sb_r1 f Fr To Q b (n + 1) s → sb_c2 f Fr To Q b n s i = false) ∧ sb_ju f Fr To Q b n (To (sb_r1 f Fr To Q b (n + 1) s)) := by
  obtain ⟨r, hr, hc⟩ := sb_c1_ex (f := f) (Fr := Fr) (To := To) (Q := Q) (b := b) (n := n) (s := s) (by have := h.1; have := h.2.1; omega)
  rw [(sb_ju_eq h hr).1] at hc
  obtain ⟨i1, _, i3, i4⟩ := sb_ls_ok Q 0 r (by omega) (by omega) hc
  have lt : sb_r1 f Fr To Q b (n + 1) s < Q := by unfold sb_r1; rw [Nat.add_sub_cancel]; omega
  have e : sb_r1 f Fr To Q b (n + 1) s = sb_ls (sb_c2 f Fr To Q b n s) Q 0 := by unfold sb_r1; rw [Nat.add_sub_cancel]
  rw [e] at lt ⊢
  exact ⟨lt, i1, fun i hi => i4 i (by omega) hi, (sb_ju_eq h lt).2 i1⟩
theorem sb_sq_ju {c a : Nat} (h : sb_ju f Fr To Q b c a) : ∀ i, i ≤ c → sb_ju f Fr To Q b (c - i) (sb_sq f Fr To Q b c a i)
  | 0, _ => h
  | i + 1, hi => by
    have j := sb_sq_ju h i (by omega)
    have e : c - i = c - (i + 1) + 1 := by omega
    rw [e] at j
    have := (sb_r1_ok j).2.2.2
    simp only [sb_sq]
    rw [e]
    exact this
end CH
