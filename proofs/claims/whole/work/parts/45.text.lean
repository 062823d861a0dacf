/-! texts of laws: what is read, and the class's reader -/
def zb_b (b : Bool) : Int32 := if b = true then zb_n 1 else zb_n 0
theorem zb_10 : ¬ zb_n 1 = zb_n 0 := by decide
theorem zb_b0 {b : Bool} : (zb_b b = zb_n 0) = (b = false) := by cases b <;> simp [zb_b, zb_10]
theorem zb_bl_b {b : Bool} : sv_bl (zb_b b) = true := by cases b <;> decide
def zb_nc (t : Nat → Int32) (n a : Nat) : Int32 := if a < n then t a else zb_i (-1)
def zb_dg (c : Int32) : Bool := decide (48 ≤ c.toInt ∧ c.toInt ≤ 57)
def zb_num (t : Nat → Int32) (n : Nat) : Nat → Nat → Int → Int × Nat
  | 0, a, v => (v, a)
  | k + 1, a, v => if zb_dg (zb_nc t n a) = true then zb_num t n k (a + 1) (10 * v + (zb_nc t n a).toInt - 48) else (v, a)
def zb_no (t : Nat → Int32) (n k a : Nat) : Int × Nat := if zb_dg (zb_nc t n a) = true then zb_num t n k a 0 else (-1, a)
abbrev zb_PR : Type := Bool × Nat × List Int32
def zb_tnu (t : Nat → Int32) (n : Nat) (sort : Int) (a : Nat) : zb_PR := if zb_dg (zb_nc t n a) = true then (true, (zb_num t n 4 a 0).2, [zb_i (sort * 10000 + (zb_num t n 4 a 0).1)]) else (false, a, [])
def zb_tst (t : Nat → Int32) (n a : Nat) : zb_PR :=
  if zb_nc t n a = zb_n 103 then (if zb_nc t n (a + 1) = zb_n 61 then zb_tnu t n 0 (a + 2) else (false, a + 1, []))
  else if zb_nc t n a = zb_n 99 then (if zb_nc t n (a + 1) = zb_n 61 then zb_tnu t n 1 (a + 2) else (false, a + 1, []))
  else if zb_nc t n a = zb_n 111 then (if zb_nc t n (a + 1) = zb_n 61 then zb_tnu t n 2 (a + 2) else (false, a + 1, []))
  else if zb_nc t n a = zb_n 116 then (if zb_nc t n (a + 1) = zb_n 60 then zb_tnu t n 3 (a + 2) else if zb_nc t n (a + 1) = zb_n 62 then zb_tnu t n 4 (a + 2) else (false, a + 1, []))
  else if zb_nc t n a = zb_n 100 then (if zb_nc t n (a + 1) = zb_n 60 then zb_tnu t n 5 (a + 2) else if zb_nc t n (a + 1) = zb_n 62 then zb_tnu t n 6 (a + 2) else (false, a + 1, []))
  else if zb_nc t n a = zb_n 98 then (true, a + 1, [zb_i 70000])
  else if zb_nc t n a = zb_n 120 then (true, a + 1, [zb_i 80000])
  else (false, a, [])
/-- one more behind a sign, and a step for it -/
def zb_moL (t : Nat → Int32) (n : Nat) (sign : Nat) (step : Int) (f : Nat → zb_PR) : Nat → Nat → List Int32 → zb_PR
  | 0, a, st => (true, a, st)
  | k + 1, a, st => if zb_nc t n a = zb_n sign then (if (f (a + 1)).1 = true then zb_moL t n sign step f k (f (a + 1)).2.1 (st ++ (f (a + 1)).2.2 ++ [zb_i step]) else (false, (f (a + 1)).2.1, st ++ (f (a + 1)).2.2)) else (true, a, st)
def zb_mo (t : Nat → Int32) (n : Nat) (sign : Nat) (step : Int) (f : Nat → zb_PR) (a : Nat) : zb_PR := if (f a).1 = true then zb_moL t n sign step f 140 (f a).2.1 (f a).2.2 else f a
def zb_fac (t : Nat → Int32) (n : Nat) : Nat → Nat → zb_PR
  | 0, a => zb_tst t n a
  | k + 1, a =>
    if zb_nc t n a = zb_n 33 then ((zb_fac t n k (a + 1)).1, (zb_fac t n k (a + 1)).2.1, (zb_fac t n k (a + 1)).2.2 ++ [zb_i 90000])
    else if zb_nc t n a = zb_n 40 then
      (if (zb_mo t n 124 110000 (zb_mo t n 38 100000 (zb_fac t n k)) (a + 1)).1 = true then (if zb_nc t n (zb_mo t n 124 110000 (zb_mo t n 38 100000 (zb_fac t n k)) (a + 1)).2.1 = zb_n 41 then (true, (zb_mo t n 124 110000 (zb_mo t n 38 100000 (zb_fac t n k)) (a + 1)).2.1 + 1, (zb_mo t n 124 110000 (zb_mo t n 38 100000 (zb_fac t n k)) (a + 1)).2.2) else (false, (zb_mo t n 124 110000 (zb_mo t n 38 100000 (zb_fac t n k)) (a + 1)).2)) else zb_mo t n 124 110000 (zb_mo t n 38 100000 (zb_fac t n k)) (a + 1))
    else zb_tst t n a
/-- a whole expression -/
def zb_exp (t : Nat → Int32) (n a : Nat) : zb_PR := zb_mo t n 124 110000 (zb_mo t n 38 100000 (zb_fac t n 5)) a
section TX
variable {t : Nat → Int32} {n a : Nat} {s : sv_S}
/-- good places: behind what was read, and not beyond the end; each step has its byte -/
def zb_gp (n a : Nat) (r : zb_PR) : Prop := a ≤ r.2.1 ∧ r.2.1 ≤ n ∧ a + r.2.2.length ≤ r.2.1 ∧ (r.1 = true → a < r.2.1)
theorem zb_nc_lt {c : Nat} (hc : c ≤ 127) (h : zb_nc t n a = zb_n c) : a < n := by
  unfold zb_nc at h
  by_cases q : a < n
  · exact q
  · rw [if_neg q, zb_n_i, zb_i_eq (by omega) (by omega) (by omega) (by omega)] at h; omega
theorem zb_dg_lt (h : zb_dg (zb_nc t n a) = true) : a < n := by
  by_cases q : a < n
  · exact q
  · unfold zb_nc at h
    rw [if_neg q] at h
    exact absurd h (by decide +kernel)
theorem zb_num_ok : ∀ (k a : Nat) (v : Int), a ≤ n → 0 ≤ v → a ≤ (zb_num t n k a v).2 ∧ (zb_num t n k a v).2 ≤ n ∧ v * 10 ^ 0 ≤ (zb_num t n k a v).1 ∧ (zb_num t n k a v).1 < (v + 1) * 10 ^ k := by
  intro k
  induction k with
  | zero => intro a v ha hv; simp only [zb_num]; omega
  | succ k ih =>
    intro a v ha hv
    simp only [zb_num]
    by_cases q : zb_dg (zb_nc t n a) = true
    · rw [if_pos q]
      have hlt := zb_dg_lt q
      unfold zb_dg at q
      rw [decide_eq_true_eq] at q
      obtain ⟨i1, i2, i3, i4⟩ := ih (a + 1) (10 * v + (zb_nc t n a).toInt - 48) (by omega) (by omega)
      refine ⟨by omega, i2, by omega, Int.lt_of_lt_of_le i4 ?_⟩
      have : (10 * v + (zb_nc t n a).toInt - 48 + 1) ≤ (v + 1) * 10 := by omega
      calc (10 * v + (zb_nc t n a).toInt - 48 + 1) * 10 ^ k ≤ ((v + 1) * 10) * 10 ^ k := Int.mul_le_mul_of_nonneg_right this (Int.pow_nonneg (by omega))
        _ = (v + 1) * 10 ^ (k + 1) := by rw [Int.mul_assoc, Int.pow_succ, Int.mul_comm 10]
    · rw [if_neg q]
      refine ⟨by omega, by omega, by omega, ?_⟩
      have : (1 : Int) ≤ 10 ^ (k + 1) := Int.pow_pos (by omega)
      calc v < v + 1 := by omega
        _ = (v + 1) * 1 := by omega
        _ ≤ (v + 1) * 10 ^ (k + 1) := Int.mul_le_mul_of_nonneg_left this (by omega)
theorem zb_num4 {a : Nat} (ha : a ≤ n) : a ≤ (zb_num t n 4 a 0).2 ∧ (zb_num t n 4 a 0).2 ≤ n ∧ 0 ≤ (zb_num t n 4 a 0).1 ∧ (zb_num t n 4 a 0).1 ≤ 9999 := by
  have := zb_num_ok (t := t) (n := n) 4 a 0 ha (by omega)
  omega
theorem zb_tnu_gp {sort : Int} (ha : a ≤ n) : a ≤ (zb_tnu t n sort a).2.1 ∧ (zb_tnu t n sort a).2.1 ≤ n ∧ (zb_tnu t n sort a).2.2.length ≤ 1 := by
  have := zb_num4 (t := t) ha
  unfold zb_tnu
  split <;> simp <;> omega
theorem zb_tst_gp (ha : a ≤ n) : zb_gp n a (zb_tst t n a) := by
  have two : ∀ (c d : Nat) (sort : Int), c ≤ 127 → d ≤ 127 → zb_nc t n a = zb_n c → zb_nc t n (a + 1) = zb_n d → zb_gp n a (zb_tnu t n sort (a + 2)) := by
    intro c d sort hc hd h1 h2
    have := zb_nc_lt hc h1
    have := zb_nc_lt hd h2
    have := zb_tnu_gp (t := t) (sort := sort) (a := a + 2) (n := n) (by omega)
    unfold zb_gp; omega
  have one : ∀ (c : Nat) (b : Bool) (l : List Int32), c ≤ 127 → zb_nc t n a = zb_n c → l.length ≤ 1 → zb_gp n a (b, a + 1, l) := by
    intro c b l hc h1 hl
    have := zb_nc_lt hc h1
    unfold zb_gp; simp; omega
  unfold zb_tst
  split
  · next h => split
              · next h2 => exact two 103 61 0 (by omega) (by omega) h h2
              · exact one 103 _ _ (by omega) h (by simp)
  split
  · next h => split
              · next h2 => exact two 99 61 1 (by omega) (by omega) h h2
              · exact one 99 _ _ (by omega) h (by simp)
  split
  · next h => split
              · next h2 => exact two 111 61 2 (by omega) (by omega) h h2
              · exact one 111 _ _ (by omega) h (by simp)
  split
  · next h => split
              · next h2 => exact two 116 60 3 (by omega) (by omega) h h2
              · split
                · next h2 => exact two 116 62 4 (by omega) (by omega) h h2
                · exact one 116 _ _ (by omega) h (by simp)
  split
  · next h => split
              · next h2 => exact two 100 60 5 (by omega) (by omega) h h2
              · split
                · next h2 => exact two 100 62 6 (by omega) (by omega) h h2
                · exact one 100 _ _ (by omega) h (by simp)
  split
  · next h => exact one 98 _ _ (by omega) h (by simp)
  split
  · next h => exact one 120 _ _ (by omega) h (by simp)
  · unfold zb_gp; simp; omega
theorem zb_moL_gp {sign : Nat} {step : Int} {f : Nat → zb_PR} (hs : sign ≤ 127) (hf : ∀ b, b ≤ n → zb_gp n b (f b)) : ∀ (k b : Nat) (st : List Int32), a + st.length ≤ b → b ≤ n → a < b → zb_gp n a (zb_moL t n sign step f k b st) ∧ ((zb_moL t n sign step f k b st).1 = true → n < k + b → zb_nc t n (zb_moL t n sign step f k b st).2.1 ≠ zb_n sign) := by
  intro k
  induction k with
  | zero => intro b st h1 h2 h3; simp only [zb_moL]; exact ⟨by unfold zb_gp; simp; omega, fun _ q => by omega⟩
  | succ k ih =>
    intro b st h1 h2 h3
    simp only [zb_moL]
    by_cases q : zb_nc t n b = zb_n sign
    · rw [if_pos q]
      have hlt := zb_nc_lt hs q
      have g := hf (b + 1) (by omega)
      unfold zb_gp at g
      by_cases u : (f (b + 1)).1 = true
      · rw [if_pos u]
        obtain ⟨i1, i2⟩ := ih (f (b + 1)).2.1 (st ++ (f (b + 1)).2.2 ++ [zb_i step]) (by simp; omega) (by omega) (by omega)
        exact ⟨i1, fun v w => i2 v (by have := g.2.2.2 u; omega)⟩
      · rw [if_neg u]
        refine ⟨by unfold zb_gp; simp; omega, fun v => by simp at v⟩
    · rw [if_neg q]
      exact ⟨by unfold zb_gp; simp; omega, fun _ _ => q⟩
theorem zb_mo_gp {sign : Nat} {step : Int} {f : Nat → zb_PR} (hs : sign ≤ 127) (hf : ∀ b, b ≤ n → zb_gp n b (f b)) (ha : a ≤ n) (hn : n ≤ 140) : zb_gp n a (zb_mo t n sign step f a) ∧ ((zb_mo t n sign step f a).1 = true → zb_nc t n (zb_mo t n sign step f a).2.1 ≠ zb_n sign) := by
  have g := hf a ha
  have g' := g
  unfold zb_gp at g'
  unfold zb_mo
  by_cases u : (f a).1 = true
  · rw [if_pos u]
    have gu := g'.2.2.2 u
    obtain ⟨i1, i2⟩ := zb_moL_gp (t := t) (step := step) (a := a) hs hf 140 (f a).2.1 (f a).2.2 (by omega) (by omega) (by omega)
    exact ⟨i1, fun v => i2 v (by omega)⟩
  · rw [if_neg u]; exact ⟨g, fun v => absurd v u⟩
theorem zb_fac_gp (hn : n ≤ 140) : ∀ (k a : Nat), a ≤ n → zb_gp n a (zb_fac t n k a) := by
  intro k
  induction k with
  | zero => intro a ha; simp only [zb_fac]; exact zb_tst_gp ha
  | succ k ih =>
    intro a ha
    simp only [zb_fac]
    by_cases q : zb_nc t n a = zb_n 33
    · rw [if_pos q]
      have := zb_nc_lt (by omega) q
      have g := ih (a + 1) (by omega)
      unfold zb_gp at g ⊢
      simp; omega
    · rw [if_neg q]
      by_cases q2 : zb_nc t n a = zb_n 40
      · rw [if_pos q2]
        have := zb_nc_lt (by omega) q2
        have g := (zb_mo_gp (t := t) (a := a + 1) (sign := 124) (step := 110000) (by omega) (fun b hb => (zb_mo_gp (t := t) (a := b) (sign := 38) (step := 100000) (by omega) ih hb hn).1) (by omega) hn).1
        generalize zb_mo t n 124 110000 (zb_mo t n 38 100000 (zb_fac t n k)) (a + 1) = r at g ⊢
        unfold zb_gp at g
        split
        · split
          · next h1 h2 => have := zb_nc_lt (by omega) h2; unfold zb_gp; simp; omega
          · unfold zb_gp; simp; omega
        · next h1 => unfold zb_gp; simp [h1]; omega
      · rw [if_neg q2]; exact zb_tst_gp ha
end TX
