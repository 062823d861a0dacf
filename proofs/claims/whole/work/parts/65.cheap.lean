/-! least sums over several rates -/
def zb_mu : Int := 1000000000
def zb_Em (f : Nat → Int) (Fr To : Nat → Nat) (g : Nat → Int) : Nat → Nat → Int
  | 0, _ => zb_mu
  | r + 1, s => if 0 ≤ f r ∧ Fr r = s ∧ g (To r) < zb_mu ∧ f r + g (To r) < zb_Em f Fr To g r s then f r + g (To r) else zb_Em f Fr To g r s
def zb_Sm (f : Nat → Int) (Fr To : Nat → Nat) (g : Nat → Int) : Nat → Nat → Int
  | 0, s => g s
  | r + 1, s => if 0 ≤ f r ∧ Fr r = s ∧ f r + g (To r) < zb_Sm f Fr To g r s then f r + g (To r) else zb_Sm f Fr To g r s
def zb_E (f : Nat → Int) (Fr To : Nat → Nat) (Q b : Nat) : Nat → Nat → Int
  | 0, s => if s = b then 0 else zb_mu
  | n + 1, s => zb_Em f Fr To (zb_E f Fr To Q b n) Q s
def zb_Sx (f : Nat → Int) (Fr To : Nat → Nat) (Q b : Nat) : Nat → Nat → Int
  | 0, s => if s = b then 0 else zb_mu
  | n + 1, s => zb_Sm f Fr To (zb_Sx f Fr To Q b n) Q s
section CH
variable {f : Nat → Int} {Fr To : Nat → Nat} {g : Nat → Int} {Q b : Nat}
theorem zb_Em_le : ∀ (k s : Nat), zb_Em f Fr To g k s ≤ zb_mu
  | 0, s => Int.le_refl _
  | k + 1, s => by have := zb_Em_le k s; simp only [zb_Em]; split <;> omega
theorem zb_Em_at : ∀ (k s r : Nat), r < k → 0 ≤ f r → Fr r = s → g (To r) < zb_mu → zb_Em f Fr To g k s ≤ f r + g (To r)
  | 0, s, r, h, _, _, _ => by omega
  | k + 1, s, r, h, h1, h2, h3 => by
    simp only [zb_Em]
    by_cases e : r = k
    · subst e; split <;> omega
    · have := zb_Em_at k s r (by omega) h1 h2 h3
      split <;> omega
theorem zb_Em_ex : ∀ (k s : Nat), zb_Em f Fr To g k s = zb_mu ∨ ∃ r, r < k ∧ 0 ≤ f r ∧ Fr r = s ∧ g (To r) < zb_mu ∧ zb_Em f Fr To g k s = f r + g (To r)
  | 0, s => Or.inl rfl
  | k + 1, s => by
    simp only [zb_Em]
    split
    · next q => exact Or.inr ⟨k, by omega, q.1, q.2.1, q.2.2.1, rfl⟩
    · rcases zb_Em_ex k s with h | ⟨r, h1, h2⟩
      · exact Or.inl h
      · exact Or.inr ⟨r, by omega, h2⟩
theorem zb_Sm_le : ∀ (k s : Nat), zb_Sm f Fr To g k s ≤ g s
  | 0, s => Int.le_refl _
  | k + 1, s => by have := zb_Sm_le k s; simp only [zb_Sm]; split <;> omega
theorem zb_Sm_at : ∀ (k s r : Nat), r < k → 0 ≤ f r → Fr r = s → zb_Sm f Fr To g k s ≤ f r + g (To r)
  | 0, s, r, h, _, _ => by omega
  | k + 1, s, r, h, h1, h2 => by
    simp only [zb_Sm]
    by_cases e : r = k
    · subst e; split <;> omega
    · have := zb_Sm_at k s r (by omega) h1 h2
      split <;> omega
theorem zb_Sm_ex : ∀ (k s : Nat), zb_Sm f Fr To g k s = g s ∨ ∃ r, r < k ∧ 0 ≤ f r ∧ Fr r = s ∧ zb_Sm f Fr To g k s = f r + g (To r)
  | 0, s => Or.inl rfl
  | k + 1, s => by
    simp only [zb_Sm]
    split
    · next q => exact Or.inr ⟨k, by omega, q.1, q.2.1, rfl⟩
    · rcases zb_Sm_ex k s with h | ⟨r, h1, h2⟩
      · exact Or.inl h
      · exact Or.inr ⟨r, by omega, h2⟩
theorem zb_E_mu : ∀ n s, 0 ≤ zb_E f Fr To Q b n s ∧ zb_E f Fr To Q b n s ≤ zb_mu
  | 0, s => by simp only [zb_E, zb_mu]; split <;> omega
  | n + 1, s => by
    simp only [zb_E]
    refine ⟨?_, zb_Em_le _ _⟩
    rcases zb_Em_ex (f := f) (Fr := Fr) (To := To) (g := zb_E f Fr To Q b n) Q s with h | ⟨r, _, h2, _, _, h5⟩
    · rw [h]; unfold zb_mu; omega
    · have := (zb_E_mu n (To r)).1; omega
theorem zb_Sx_mu : ∀ n s, 0 ≤ zb_Sx f Fr To Q b n s ∧ zb_Sx f Fr To Q b n s ≤ zb_mu
  | 0, s => by simp only [zb_Sx, zb_mu]; split <;> omega
  | n + 1, s => by
    simp only [zb_Sx]
    have i := zb_Sx_mu n
    refine ⟨?_, Int.le_trans (zb_Sm_le _ _) (i s).2⟩
    rcases zb_Sm_ex (f := f) (Fr := Fr) (To := To) (g := zb_Sx f Fr To Q b n) Q s with h | ⟨r, _, h2, _, h5⟩
    · rw [h]; exact (i s).1
    · have := (i (To r)).1; omega
theorem zb_Sx_mono {n m s : Nat} (h : n ≤ m) : zb_Sx f Fr To Q b m s ≤ zb_Sx f Fr To Q b n s := by
  induction m with
  | zero => rw [show n = 0 by omega]; exact Int.le_refl _
  | succ m ih =>
    by_cases e : n = m + 1
    · rw [e]; exact Int.le_refl _
    · exact Int.le_trans (zb_Sm_le Q s) (ih (by omega))
/-- at most so many, and just so many -/
theorem zb_SE : ∀ n s, (∀ m, m ≤ n → zb_Sx f Fr To Q b n s ≤ zb_E f Fr To Q b m s) ∧ ∃ m, m ≤ n ∧ zb_Sx f Fr To Q b n s = zb_E f Fr To Q b m s
  | 0, s => ⟨fun m hm => by rw [show m = 0 by omega]; exact Int.le_refl _, 0, Nat.le_refl _, rfl⟩
  | n + 1, s => by
    have i := zb_SE n
    have up : ∀ m, m ≤ n + 1 → zb_Sx f Fr To Q b (n + 1) s ≤ zb_E f Fr To Q b m s := by
      intro m hm
      by_cases e : m = n + 1
      · subst e
        rcases zb_Em_ex (f := f) (Fr := Fr) (To := To) (g := zb_E f Fr To Q b n) Q s with h | ⟨r, h1, h2, h3, h4, h5⟩
        · show _ ≤ zb_Em f Fr To (zb_E f Fr To Q b n) Q s
          rw [h]; exact (zb_Sx_mu _ _).2
        · show _ ≤ zb_Em f Fr To (zb_E f Fr To Q b n) Q s
          rw [h5]
          have a1 := zb_Sm_at (To := To) (g := zb_Sx f Fr To Q b n) Q s r h1 h2 h3
          have a2 := (i (To r)).1 n (Nat.le_refl _)
          have : zb_Sx f Fr To Q b (n + 1) s = zb_Sm f Fr To (zb_Sx f Fr To Q b n) Q s := rfl
          omega
      · exact Int.le_trans (zb_Sx_mono (by omega)) ((i s).1 m (by omega))
    refine ⟨up, ?_⟩
    rcases zb_Sm_ex (f := f) (Fr := Fr) (To := To) (g := zb_Sx f Fr To Q b n) Q s with h | ⟨r, h1, h2, h3, h5⟩
    · obtain ⟨m, m1, m2⟩ := (i s).2
      exact ⟨m, by omega, by show zb_Sm f Fr To (zb_Sx f Fr To Q b n) Q s = _; rw [h]; exact m2⟩
    · have e0 : zb_Sx f Fr To Q b (n + 1) s = f r + zb_Sx f Fr To Q b n (To r) := h5
      obtain ⟨m, m1, m2⟩ := (i (To r)).2
      by_cases q : zb_E f Fr To Q b m (To r) < zb_mu
      · have a1 := zb_Em_at (To := To) (g := zb_E f Fr To Q b m) Q s r h1 h2 h3 q
        have a2 := up (m + 1) (by omega)
        have e : zb_E f Fr To Q b (m + 1) s = zb_Em f Fr To (zb_E f Fr To Q b m) Q s := rfl
        exact ⟨m + 1, by omega, by omega⟩
      · obtain ⟨m', m1', m2'⟩ := (i s).2
        have b1 := zb_Sx_mono (f := f) (Fr := Fr) (To := To) (Q := Q) (b := b) (n := n) (m := n + 1) (s := s) (by omega)
        have b2 := (zb_Sx_mu (f := f) (Fr := Fr) (To := To) (Q := Q) (b := b) n s).2
        exact ⟨m', by omega, by omega⟩
/-- bounds: eight charges are far below much -/
theorem zb_Sx_rg (hf : ∀ r, r < Q → f r ≤ 4000000) : ∀ n s, zb_Sx f Fr To Q b n s = zb_mu ∨ zb_Sx f Fr To Q b n s ≤ 4000000 * n
  | 0, s => by simp only [zb_Sx]; split <;> simp
  | n + 1, s => by
    have i := zb_Sx_rg hf n
    have mu := zb_Sx_mu (f := f) (Fr := Fr) (To := To) (Q := Q) (b := b)
    have e0 : zb_Sx f Fr To Q b (n + 1) s = zb_Sm f Fr To (zb_Sx f Fr To Q b n) Q s := rfl
    rcases zb_Sm_ex (f := f) (Fr := Fr) (To := To) (g := zb_Sx f Fr To Q b n) Q s with h | ⟨r, h1, h2, h3, h5⟩
    · rcases i s with q | q
      · exact Or.inl (by rw [e0, h]; exact q)
      · right; rw [e0, h]; omega
    · have := hf r h1
      rcases i (To r) with q | q
      · have := (mu (n + 1) s).2
        left; omega
      · right; omega
theorem zb_E_rg (hf : ∀ r, r < Q → f r ≤ 4000000) : ∀ n s, zb_E f Fr To Q b n s = zb_mu ∨ zb_E f Fr To Q b n s ≤ 4000000 * n
  | 0, s => by simp only [zb_E]; split <;> simp
  | n + 1, s => by
    have i := zb_E_rg hf n
    have e0 : zb_E f Fr To Q b (n + 1) s = zb_Em f Fr To (zb_E f Fr To Q b n) Q s := rfl
    rcases zb_Em_ex (f := f) (Fr := Fr) (To := To) (g := zb_E f Fr To Q b n) Q s with h | ⟨r, h1, h2, h3, h4, h5⟩
    · exact Or.inl (by rw [e0, h])
    · have := hf r h1
      rcases i (To r) with q | q
      · omega
      · right; omega
/-- the first rate of a least sum: by exact sums, and by sums of at most so many -/
def zb_c1 (f : Nat → Int) (Fr To : Nat → Nat) (Q b n s r : Nat) : Bool := decide (0 ≤ f r ∧ Fr r = s ∧ zb_E f Fr To Q b n (To r) < zb_mu ∧ f r + zb_E f Fr To Q b n (To r) = zb_E f Fr To Q b (n + 1) s)
def zb_c2 (f : Nat → Int) (Fr To : Nat → Nat) (Q b n s r : Nat) : Bool := decide (0 ≤ f r ∧ Fr r = s ∧ f r + zb_Sx f Fr To Q b n (To r) = zb_Sx f Fr To Q b (n + 1) s)
/-- so many rates are just what a least sum needs -/
def zb_ju (f : Nat → Int) (Fr To : Nat → Nat) (Q b n s : Nat) : Prop := zb_Sx f Fr To Q b n s < zb_mu ∧ zb_Sx f Fr To Q b n s = zb_E f Fr To Q b n s ∧ ∀ m, m < n → zb_Sx f Fr To Q b n s < zb_Sx f Fr To Q b m s
theorem zb_ju_eq {n s r : Nat} (h : zb_ju f Fr To Q b (n + 1) s) (hr : r < Q) : zb_c1 f Fr To Q b n s r = zb_c2 f Fr To Q b n s r ∧ (zb_c2 f Fr To Q b n s r = true → zb_ju f Fr To Q b n (To r)) := by
  obtain ⟨h1, h2, h3⟩ := h
  have back : zb_c2 f Fr To Q b n s r = true → zb_ju f Fr To Q b n (To r) := by
    intro q
    unfold zb_c2 at q
    rw [decide_eq_true_eq] at q
    obtain ⟨q1, q2, q3⟩ := q
    have lt : zb_Sx f Fr To Q b n (To r) < zb_mu := by omega
    have key : ∀ m, m ≤ n → zb_Sx f Fr To Q b n (To r) = zb_E f Fr To Q b m (To r) → m = n := by
      intro m hm e
      by_cases w : m = n
      · exact w
      · have a1 := zb_Em_at (To := To) (g := zb_E f Fr To Q b m) Q s r hr q1 q2 (by omega)
        have a2 : zb_E f Fr To Q b (m + 1) s = zb_Em f Fr To (zb_E f Fr To Q b m) Q s := rfl
        have a3 := h3 (m + 1) (by omega)
        have a4 := (zb_SE (f := f) (Fr := Fr) (To := To) (Q := Q) (b := b) (m + 1) s).1 (m + 1) (Nat.le_refl _)
        omega
    obtain ⟨m, m1, m2⟩ := (zb_SE (f := f) (Fr := Fr) (To := To) (Q := Q) (b := b) n (To r)).2
    have mn := key m m1 m2
    subst mn
    refine ⟨lt, m2, fun k hk => ?_⟩
    have mo := zb_Sx_mono (f := f) (Fr := Fr) (To := To) (Q := Q) (b := b) (n := k) (m := m) (s := To r) (by omega)
    by_cases e : zb_Sx f Fr To Q b m (To r) = zb_Sx f Fr To Q b k (To r)
    · obtain ⟨j, j1, j2⟩ := (zb_SE (f := f) (Fr := Fr) (To := To) (Q := Q) (b := b) k (To r)).2
      have := key j (by omega) (by omega)
      omega
    · omega
  refine ⟨?_, back⟩
  cases c2 : zb_c2 f Fr To Q b n s r with
  | true =>
    have j := back c2
    unfold zb_c2 at c2
    rw [decide_eq_true_eq] at c2
    unfold zb_c1
    rw [decide_eq_true_eq]
    have j1 := j.1; have j2 := j.2.1
    exact ⟨c2.1, c2.2.1, by omega, by omega⟩
  | false =>
    unfold zb_c2 at c2
    rw [decide_eq_false_iff_not] at c2
    unfold zb_c1
    rw [decide_eq_false_iff_not]
    intro w
    refine c2 ⟨w.1, w.2.1, ?_⟩
    have a1 := zb_Sm_at (To := To) (g := zb_Sx f Fr To Q b n) Q s r hr w.1 w.2.1
    have a2 := (zb_SE (f := f) (Fr := Fr) (To := To) (Q := Q) (b := b) n (To r)).1 n (Nat.le_refl _)
    have a3 : zb_Sx f Fr To Q b (n + 1) s = zb_Sm f Fr To (zb_Sx f Fr To Q b n) Q s := rfl
    omega
theorem zb_c1_ex {n s : Nat} (h : zb_E f Fr To Q b (n + 1) s < zb_mu) : ∃ r, r < Q ∧ zb_c1 f Fr To Q b n s r = true := by
  rcases zb_Em_ex (f := f) (Fr := Fr) (To := To) (g := zb_E f Fr To Q b n) Q s with q | ⟨r, h1, h2, h3, h4, h5⟩
  · have : zb_E f Fr To Q b (n + 1) s = zb_mu := q
    omega
  · refine ⟨r, h1, ?_⟩
    unfold zb_c1
    rw [decide_eq_true_eq]
    exact ⟨h2, h3, h4, h5.symm⟩
/-- how many rates a least sum from a takes -/
def zb_cm (f : Nat → Int) (Fr To : Nat → Nat) (Q b a : Nat) : Nat := zb_ls (fun n => decide (zb_Sx f Fr To Q b n a = zb_Sx f Fr To Q b 8 a)) 9 0
theorem zb_cm_ok (a : Nat) : zb_cm f Fr To Q b a ≤ 8 ∧ zb_Sx f Fr To Q b (zb_cm f Fr To Q b a) a = zb_Sx f Fr To Q b 8 a ∧ ∀ m, m < zb_cm f Fr To Q b a → zb_Sx f Fr To Q b 8 a < zb_Sx f Fr To Q b m a := by
  obtain ⟨i1, _, i3, i4⟩ := zb_ls_ok (f := fun n => decide (zb_Sx f Fr To Q b n a = zb_Sx f Fr To Q b 8 a)) 9 0 8 (by omega) (by omega) (by simp)
  refine ⟨i3, of_decide_eq_true i1, fun m hm => ?_⟩
  have := of_decide_eq_false (i4 m (by omega) hm)
  have mo := zb_Sx_mono (f := f) (Fr := Fr) (To := To) (Q := Q) (b := b) (n := m) (m := 8) (s := a) (by have : zb_cm f Fr To Q b a ≤ 8 := i3; omega)
  omega
theorem zb_cm_ju {a : Nat} (h : zb_Sx f Fr To Q b 8 a < zb_mu) : zb_ju f Fr To Q b (zb_cm f Fr To Q b a) a := by
  obtain ⟨c1, c2, c3⟩ := zb_cm_ok (f := f) (Fr := Fr) (To := To) (Q := Q) (b := b) a
  refine ⟨by omega, ?_, fun m hm => by have := c3 m hm; omega⟩
  obtain ⟨m, m1, m2⟩ := (zb_SE (f := f) (Fr := Fr) (To := To) (Q := Q) (b := b) (zb_cm f Fr To Q b a) a).2
  by_cases e : m = zb_cm f Fr To Q b a
  · rw [e] at m2; exact m2
  · have a1 := c3 m (by omega)
    have a2 := (zb_SE (f := f) (Fr := Fr) (To := To) (Q := Q) (b := b) m a).1 m (Nat.le_refl _)
    omega
/-- which rate, and where one stands behind it -/
def zb_r1 (f : Nat → Int) (Fr To : Nat → Nat) (Q b n s : Nat) : Nat := zb_ls (zb_c2 f Fr To Q b (n - 1) s) Q 0
def zb_sq (f : Nat → Int) (Fr To : Nat → Nat) (Q b c a : Nat) : Nat → Nat
  | 0 => a
  | i + 1 => To (zb_r1 f Fr To Q b (c - i) (zb_sq f Fr To Q b c a i))
theorem zb_r1_ok {n s : Nat} (h : zb_ju f Fr To Q b (n + 1) s) : zb_r1 f Fr To Q b (n + 1) s < Q ∧ zb_c2 f Fr To Q b n s (zb_r1 f Fr To Q b (n + 1) s) = true ∧ (∀ i, i < zb_r1 f Fr To Q b (n + 1) s → zb_c2 f Fr To Q b n s i = false) ∧ zb_ju f Fr To Q b n (To (zb_r1 f Fr To Q b (n + 1) s)) := by
  obtain ⟨r, hr, hc⟩ := zb_c1_ex (f := f) (Fr := Fr) (To := To) (Q := Q) (b := b) (n := n) (s := s) (by have := h.1; have := h.2.1; omega)
  rw [(zb_ju_eq h hr).1] at hc
  obtain ⟨i1, _, i3, i4⟩ := zb_ls_ok Q 0 r (by omega) (by omega) hc
  have lt : zb_r1 f Fr To Q b (n + 1) s < Q := by unfold zb_r1; rw [Nat.add_sub_cancel]; omega
  have e : zb_r1 f Fr To Q b (n + 1) s = zb_ls (zb_c2 f Fr To Q b n s) Q 0 := by unfold zb_r1; rw [Nat.add_sub_cancel]
  rw [e] at lt ⊢
  exact ⟨lt, i1, fun i hi => i4 i (by omega) hi, (zb_ju_eq h lt).2 i1⟩
theorem zb_sq_ju {c a : Nat} (h : zb_ju f Fr To Q b c a) : ∀ i, i ≤ c → zb_ju f Fr To Q b (c - i) (zb_sq f Fr To Q b c a i)
  | 0, _ => h
  | i + 1, hi => by
    have j := zb_sq_ju h i (by omega)
    have e : c - i = c - (i + 1) + 1 := by omega
    rw [e] at j
    have := (zb_r1_ok j).2.2.2
    simp only [zb_sq]
    rw [e]
    exact this
end CH
