/-! the class's least sums, and their rates -/
section XC2
variable {f : Nat → Int} {Fr To Ow : Nat → Nat} {Q b L : Nat} {s : sv_S}
theorem sb_leastFrom (h : sb_RW f Fr To Q b L s) {a : Nat} (ha : a < 16) : F_Ca_leastFrom (sb_n a) s = some (sb_i (if sb_Sx f Fr To Q b 8 a < sb_mu then sb_Sx f Fr To Q b 8 a else -1)) := by
  obtain ⟨h1, h2, h3, h4⟩ := h
  have mu := sb_Sx_mu (f := f) (Fr := Fr) (To := To) (Q := Q) (b := b) 8 a
  unfold sb_mu at mu
  unfold F_Ca_leastFrom
  have e : s.1 159 5 * (16 : Int32) + sb_n a = sb_n (16 * L + a) := by rw [h1, show (16 : Int32) = sb_n 16 from rfl, sb_n_mul, sb_n_add, Nat.mul_comm]
  rw [e, if_pos (by rw [sb_ib_n (by omega)]; omega), sb_n_ix (by omega), h3 L a (Nat.le_refl _) ha, h4 a ha, sb_m1]
  simp only [ss_let]
  have z : (sb_i (sb_Sx f Fr To Q b 8 a) < (1000000000 : Int32)) = (sb_Sx f Fr To Q b 8 a < sb_mu) := by rw [show (1000000000 : Int32) = sb_i 1000000000 from sb_n_i 1000000000]; exact sb_i_lt (by omega) (by omega) (by omega) (by omega)
  simp only [z]
  split <;> rfl
theorem sb_legsFrom (h : sb_RW f Fr To Q b L s) {a : Nat} (ha : a < 16) : sb_W (F_Ca_legsFrom (sb_n a) s) (fun r => r = sb_n (sb_cm f Fr To Q b a) ∧ sb_cm f Fr To Q b a ≤ L) := by
  obtain ⟨h1, h2, h3, h4⟩ := h
  have mu := fun n => sb_Sx_mu (f := f) (Fr := Fr) (To := To) (Q := Q) (b := b) n a
  unfold sb_mu at mu
  obtain ⟨c1, c2, c3⟩ := sb_cm_ok (f := f) (Fr := Fr) (To := To) (Q := Q) (b := b) a
  have cL : sb_cm f Fr To Q b a ≤ L := by
    by_cases q : L < sb_cm f Fr To Q b a
    · have := c3 L q; rw [h4 a ha] at this; omega
    · omega
  unfold F_Ca_legsFrom
  have e : s.1 159 5 * (16 : Int32) + sb_n a = sb_n (16 * L + a) := by rw [h1, show (16 : Int32) = sb_n 16 from rfl, sb_n_mul, sb_n_add, Nat.mul_comm]
  rw [e]
  refine sb_Wpos (by first | omega | (simp (disch := omega) only [sb_lit, sb_n_add, sb_n_mul, sb_n_ix, sb_n_lt, sb_n_le, sb_n_eq, sb_ib_n] <;> omega)) ?_
  refine sb_Wlet ?_
  rw [sb_n_ix (by omega), h3 L a (Nat.le_refl _) ha, h4 a ha]
  refine sb_for0 (fun n k => F_Ca_legsFrom_b17 s n (sb_n a) (sb_i (sb_Sx f Fr To Q b 8 a)) (sb_n k)) (sb_cm f Fr To Q b a) (fun _ => True) ?_ ?_ ss_F 0 (by omega) (by unfold ss_F; omega) trivial
  · intro n _
    simp only [F_Ca_legsFrom_b17]
    rw [h1]
    by_cases q : sb_cm f Fr To Q b a = L
    · refine sb_Wpos (by rw [q]; exact Int32.le_refl _) (sb_Wsome ⟨by rw [q], cL⟩)
    · refine sb_Wneg (by rw [sb_n_le (by omega) (by omega)]; omega) ?_
      have e2 : sb_n (sb_cm f Fr To Q b a) * (16 : Int32) + sb_n a = sb_n (16 * sb_cm f Fr To Q b a + a) := by rw [show (16 : Int32) = sb_n 16 from rfl, sb_n_mul, sb_n_add, Nat.mul_comm]
      rw [e2]
      refine sb_Wpos (by first | omega | (simp (disch := omega) only [sb_lit, sb_n_add, sb_n_mul, sb_n_ix, sb_n_lt, sb_n_le, sb_n_eq, sb_ib_n] <;> omega)) ?_
      rw [sb_n_ix (by omega), h3 _ a (by omega) ha]
      exact sb_Wpos (by rw [c2]) (sb_Wsome ⟨rfl, cL⟩)
  · intro n k hk _ ih
    simp only [F_Ca_legsFrom_b17]
    rw [h1]
    refine sb_Wneg (by rw [sb_n_le (by omega) (by omega)]; omega) ?_
    have e2 : sb_n k * (16 : Int32) + sb_n a = sb_n (16 * k + a) := by rw [show (16 : Int32) = sb_n 16 from rfl, sb_n_mul, sb_n_add, Nat.mul_comm]
    rw [e2]
    refine sb_Wpos (by first | omega | (simp (disch := omega) only [sb_lit, sb_n_add, sb_n_mul, sb_n_ix, sb_n_lt, sb_n_le, sb_n_eq, sb_ib_n] <;> omega)) ?_
    rw [sb_n_ix (by omega), h3 _ a (by omega) ha]
    have m8 := mu 8
    have mk := mu k
    refine sb_Wneg (by rw [sb_i_eq (by omega) (by omega) (by omega) (by omega)]; have := c3 k hk; omega) (sb_Wlet ?_)
    rw [show sb_n k + (1 : Int32) = sb_n (k + 1) from sb_n_add k 1]
    exact ih trivial
theorem sb_firstLeg (hf : ∀ r, r < Q → f r ≤ 4000000) (hC : sb_RC Q Fr To Ow s) (hP : sb_PC Q f s) (h : sb_RW f Fr To Q b L s) {n x : Nat} (hn : n + 1 ≤ L) (hx : x < 16) (hj : sb_ju f Fr To Q b (n + 1) x) : sb_W (F_Ca_firstLeg (sb_n x) (sb_n (n + 1)) s) (fun r => r = sb_n (sb_r1 f Fr To Q b (n + 1) x)) := by
  obtain ⟨h1, h2, h3, h4⟩ := h
  have hQ := hC.1
  have mu := sb_Sx_mu (f := f) (Fr := Fr) (To := To) (Q := Q) (b := b)
  have ctl := sb_ct_le (f := f) Q
  obtain ⟨j1, j2, j3, j4⟩ := sb_r1_ok hj
  have hc2 := j2
  unfold sb_c2 at hc2
  rw [decide_eq_true_eq] at hc2
  unfold F_Ca_firstLeg
  refine sb_Wpos (by rw [show (1 : Int32) = sb_n 1 from rfl, sb_n_le (by omega) (by omega)]; omega) (sb_Wlet ?_)
  have e1 : sb_n (n + 1) * (16 : Int32) = sb_n (16 * (n + 1)) := by rw [show (16 : Int32) = sb_n 16 from rfl, sb_n_mul, Nat.mul_comm]
  have e2 : sb_n (16 * (n + 1)) - (16 : Int32) = sb_n (16 * n) := by rw [show (16 : Int32) = sb_n 16 from rfl, sb_n_sub (by omega)]; congr 1
  rw [e1]
  refine sb_while (fun m (k : Nat) => F_Ca_firstLeg_b15 s m (sb_n x) (sb_n (16 * (n + 1))) (sb_n k)) (fun k => ∃ r, r ≤ sb_r1 f Fr To Q b (n + 1) x ∧ sb_ct f r = k) (fun k => 60 - k) ?_ ss_F 0 ⟨0, by omega, rfl⟩ (by unfold ss_F; omega)
  intro m k hI ih
  obtain ⟨r, r1, r2⟩ := hI
  have ctr := sb_ct_le (f := f) r
  have lt : sb_ct f r < sb_ct f Q := by
    have a1 : sb_ct f (sb_r1 f Fr To Q b (n + 1) x + 1) = sb_ct f (sb_r1 f Fr To Q b (n + 1) x) + 1 := by simp only [sb_ct]; rw [if_pos hc2.1]
    have a2 := sb_ct_mono (f := f) r1
    have a3 := sb_ct_mono (f := f) (r := sb_r1 f Fr To Q b (n + 1) x + 1) (q := Q) (by omega)
    omega
  obtain ⟨j, q1, q2, q3, q4, q5⟩ := sb_ct_nx (f := f) (Q := Q) (Q - r) r (by omega) lt
  have jle : j ≤ sb_r1 f Fr To Q b (n + 1) x := by
    by_cases w : sb_r1 f Fr To Q b (n + 1) x < j
    · have := q5 _ r1 w; omega
    · omega
  have e161 : s.1 161 k = sb_n j := by rw [← r2, ← q4]; exact hP.2.2 j q2 q3
  have e160 : s.1 160 j = sb_i (f j) := hP.1 j q2
  obtain ⟨t1, t2, t3, t4, t5, t6⟩ := hC.2.2 j q2
  have ef : s.1 162 (16 * n + To j) = sb_i (sb_Sx f Fr To Q b n (To j)) := h3 n _ (by omega) t6
  have eg : s.1 162 (16 * (n + 1) + x) = sb_i (sb_Sx f Fr To Q b (n + 1) x) := h3 (n + 1) x hn hx
  have m1 := mu n (To j)
  have m2 := mu (n + 1) x
  have fj := hf j q2
  unfold sb_mu at m1 m2
  simp only [F_Ca_firstLeg_b15]
  rw [hP.2.1]
  refine sb_Wneg (by rw [sb_n_le (by omega) (by omega)]; omega) ?_
  refine sb_Wpos (by first | omega | (simp (disch := omega) only [sb_lit, sb_n_add, sb_n_mul, sb_n_ix, sb_n_lt, sb_n_le, sb_n_eq, sb_ib_n] <;> omega)) ?_
  rw [sb_n_ix (by omega), e161, sb_row (by omega)]
  refine sb_Wbind (sb_Wsome ?_)
  refine sb_Wpos (sb_ok91 (by omega)) ?_
  rw [t2, t3, e2]
  have skip : sb_c2 f Fr To Q b n x j = false → sb_W (F_Ca_firstLeg_b100 s (F_Ca_firstLeg_b15 s m) (sb_n x) (sb_n (16 * (n + 1))) (sb_n k)) (fun r => r = sb_n (sb_r1 f Fr To Q b (n + 1) x)) := by
    intro z
    unfold F_Ca_firstLeg_b100
    refine sb_Wlet ?_
    rw [show sb_n k + (1 : Int32) = sb_n (k + 1) from sb_n_add k 1]
    have ne : j ≠ sb_r1 f Fr To Q b (n + 1) x := by intro e; rw [← e, z] at j2; cases j2
    refine ih (k + 1) ⟨j + 1, by omega, ?_⟩ (by omega)
    simp only [sb_ct]; rw [if_pos q3]; omega
  simp (disch := omega) only [sb_lit, sb_n_add, sb_n_mul, sb_n_ix, sb_n_lt, sb_n_le, sb_n_eq, sb_ib_n, e160, ef, eg, sb_i_add, sb_i_eq]
  rw [if_pos (by omega), if_pos (by omega), if_pos (by omega)]
  refine sb_Wlet ?_
  by_cases w1 : Fr j = x
  · refine sb_Wpos w1 (sb_Wpos (by omega) ?_)
    simp (disch := omega) only [sb_i_eq]
    by_cases w2 : sb_Sx f Fr To Q b n (To j) + f j = sb_Sx f Fr To Q b (n + 1) x
    · refine sb_Wpos w2 (sb_Wpos (by omega) (sb_Wsome ?_))
      have c2j : sb_c2 f Fr To Q b n x j = true := by unfold sb_c2; rw [decide_eq_true_eq]; exact ⟨q3, w1, by omega⟩
      have : j = sb_r1 f Fr To Q b (n + 1) x := by
        by_cases e : j < sb_r1 f Fr To Q b (n + 1) x
        · rw [j3 j e] at c2j; cases c2j
        · omega
      rw [this]
    · refine sb_Wneg w2 (skip ?_)
      unfold sb_c2; rw [decide_eq_false_iff_not]; intro z; omega
  · refine sb_Wneg w1 (skip ?_)
    unfold sb_c2; rw [decide_eq_false_iff_not]; intro z; exact w1 z.2.1
theorem sb_sq_lt (hC : sb_RC Q Fr To Ow s) {c a : Nat} (hj : sb_ju f Fr To Q b c a) (ha : a < 16) : ∀ i, i ≤ c → sb_sq f Fr To Q b c a i < 16
  | 0, _ => ha
  | i + 1, hi => by
    have j := sb_sq_ju hj i (by omega)
    have e : c - i = c - (i + 1) + 1 := by omega
    rw [e] at j
    have := (sb_r1_ok j).1
    simp only [sb_sq]; rw [e]
    exact (hC.2.2 _ this).2.2.2.2.2
/-- the i-th rate of a least sum -/
def sb_ri (f : Nat → Int) (Fr To : Nat → Nat) (Q b c a i : Nat) : Nat := sb_r1 f Fr To Q b (c - i) (sb_sq f Fr To Q b c a i)
theorem sb_leg (hf : ∀ r, r < Q → f r ≤ 4000000) (hC : sb_RC Q Fr To Ow s) (hP : sb_PC Q f s) (h : sb_RW f Fr To Q b L s) {a i : Nat} (ha : a < 16) (hlt : sb_Sx f Fr To Q b 8 a < sb_mu) (hi : i < sb_cm f Fr To Q b a) : sb_W (F_Ca_leg (sb_n a) (sb_n i) s) (fun r => r = sb_n (sb_ri f Fr To Q b (sb_cm f Fr To Q b a) a i)) := by
  have hQ := hC.1
  have hj := sb_cm_ju hlt
  have c8 := (sb_cm_ok (f := f) (Fr := Fr) (To := To) (Q := Q) (b := b) a).1
  unfold F_Ca_leg
  refine sb_Wbind2 (sb_legsFrom h ha) (fun r hr => ?_)
  obtain ⟨rfl, cL⟩ := hr
  generalize sb_cm f Fr To Q b a = c at *
  refine sb_for0 (fun n k => F_Ca_leg_b12 s n (sb_n i) (sb_n (sb_sq f Fr To Q b c a k)) (sb_n c) (sb_n k)) i (fun _ => True) ?_ ?_ ss_F 0 (by omega) (by unfold ss_F; omega) trivial
  · intro n _
    have jk := sb_sq_ju hj i (by omega)
    rw [show c - i = c - i - 1 + 1 by omega] at jk
    simp only [F_Ca_leg_b12]
    refine sb_Wneg (by first | omega | (simp (disch := omega) only [sb_lit, sb_n_add, sb_n_mul, sb_n_ix, sb_n_lt, sb_n_le, sb_n_eq, sb_ib_n] <;> omega)) ?_
    rw [sb_n_sub (by omega), show c - i = c - i - 1 + 1 by omega]
    refine sb_Wbind2 (sb_firstLeg hf hC hP h (by omega) (sb_sq_lt hC hj ha i (by omega)) jk) (fun r hr => ?_)
    subst hr
    refine sb_Wpos (by trivial) (sb_Wsome ?_)
    unfold sb_ri; rw [show c - i - 1 + 1 = c - i by omega]
  · intro n k hk _ ih
    have jk := sb_sq_ju hj k (by omega)
    rw [show c - k = c - k - 1 + 1 by omega] at jk
    have rlt := (sb_r1_ok jk).1
    simp only [F_Ca_leg_b12]
    refine sb_Wneg (by first | omega | (simp (disch := omega) only [sb_lit, sb_n_add, sb_n_mul, sb_n_ix, sb_n_lt, sb_n_le, sb_n_eq, sb_ib_n] <;> omega)) ?_
    rw [sb_n_sub (by omega), show c - k = c - k - 1 + 1 by omega]
    refine sb_Wbind2 (sb_firstLeg hf hC hP h (by omega) (sb_sq_lt hC hj ha k (by omega)) jk) (fun r hr => ?_)
    subst hr
    refine sb_Wneg (by rw [sb_n_eq (by omega) (by omega)]; omega) ?_
    refine sb_Wpos (by rw [show (0 : Int32) = sb_n 0 from rfl, sb_n_le (by omega) (by omega)]; omega) ?_
    rw [sb_row (by omega)]
    refine sb_Wbind (sb_Wsome (sb_Wpos (sb_ok91 (by omega)) (sb_Wlet (sb_Wlet ?_))))
    rw [(hC.2.2 _ rlt).2.2.1, show sb_n k + (1 : Int32) = sb_n (k + 1) from sb_n_add k 1]
    have := ih trivial
    simp only [sb_sq] at this
    rw [show c - k = c - k - 1 + 1 by omega] at this
    exact this
/-- what an owner has of a least sum, or all have -/
def sb_tb (f : Nat → Int) (Fr To Ow : Nat → Nat) (Q b c a : Nat) (o : Int) : Nat → Int
  | 0 => 0
  | i + 1 => sb_tb f Fr To Ow Q b c a o i + (if o = -1 ∨ (Ow (sb_ri f Fr To Q b c a i) : Int) = o then f (sb_ri f Fr To Q b c a i) else 0)
theorem sb_takenBy (hf : ∀ r, r < Q → f r ≤ 4000000) (hC : sb_RC Q Fr To Ow s) (hP : sb_PC Q f s) (h : sb_RW f Fr To Q b L s) {a : Nat} {o : Int} (ho : -1 ≤ o) (ho5 : o ≤ 5) (ha : a < 16) (hlt : sb_Sx f Fr To Q b 8 a < sb_mu) : sb_W (F_Ca_takenBy (sb_i o) (sb_n a) s) (fun r => r = sb_i (sb_tb f Fr To Ow Q b (sb_cm f Fr To Q b a) a o (sb_cm f Fr To Q b a))) := by
  have hQ := hC.1
  have hj := sb_cm_ju hlt
  have c8 := (sb_cm_ok (f := f) (Fr := Fr) (To := To) (Q := Q) (b := b) a).1
  unfold F_Ca_takenBy
  refine sb_Wbind2 (sb_legsFrom h ha) (fun r hr => ?_)
  obtain ⟨rfl, cL⟩ := hr
  generalize sb_cm f Fr To Q b a = c at *
  refine sb_for0 (fun n k => F_Ca_takenBy_b15 s n (sb_i o) (sb_i (sb_tb f Fr To Ow Q b c a o k)) (sb_n c) (sb_n (sb_sq f Fr To Q b c a k)) (sb_n k)) c (fun _ => True) ?_ ?_ ss_F 0 (by omega) (by unfold ss_F; omega) trivial
  · intro n _
    simp only [F_Ca_takenBy_b15]
    exact sb_Wpos (Int32.le_refl _) (sb_Wsome rfl)
  · intro n k hk _ ih
    have jk := sb_sq_ju hj k (by omega)
    rw [show c - k = c - k - 1 + 1 by omega] at jk
    have rlt := (sb_r1_ok jk).1
    have e : sb_ri f Fr To Q b c a k = sb_r1 f Fr To Q b (c - k - 1 + 1) (sb_sq f Fr To Q b c a k) := by unfold sb_ri; congr 1; omega
    obtain ⟨t1, t2, t3, t4, t5, t6⟩ := hC.2.2 _ rlt
    simp only [F_Ca_takenBy_b15]
    refine sb_Wneg (by rw [sb_n_le (by omega) (by omega)]; omega) ?_
    rw [sb_n_sub (by omega), show c - k = c - k - 1 + 1 by omega]
    refine sb_Wbind2 (sb_firstLeg hf hC hP h (by omega) (sb_sq_lt hC hj ha k (by omega)) jk) (fun r hr => ?_)
    subst hr
    refine sb_Wpos (by rw [show (0 : Int32) = sb_n 0 from rfl, sb_n_le (by omega) (by omega)]; omega) ?_
    rw [sb_row (by omega)]
    refine sb_Wbind (sb_Wsome (sb_Wpos (sb_ok91 (by omega)) ?_))
    have ih := ih trivial
    simp only [sb_sq, sb_tb] at ih
    have e2 : sb_r1 f Fr To Q b (c - k) (sb_sq f Fr To Q b c a k) = sb_ri f Fr To Q b c a k := rfl
    rw [e2, e] at ih
    have b77 : ∀ v : Int, sb_W (F_Ca_takenBy_b15 s n (sb_i o) (sb_i v) (sb_n c) (sb_n (To (sb_r1 f Fr To Q b (c - k - 1 + 1) (sb_sq f Fr To Q b c a k)))) (sb_n (k + 1))) (fun r => r = sb_i (sb_tb f Fr To Ow Q b c a o c)) → sb_W (F_Ca_takenBy_b77 s (F_Ca_takenBy_b15 s n) (sb_i o) (sb_i v) (sb_n c) (sb_n k) (91 + sb_r1 f Fr To Q b (c - k - 1 + 1) (sb_sq f Fr To Q b c a k))) (fun r => r = sb_i (sb_tb f Fr To Ow Q b c a o c)) := by
      intro v hv
      unfold F_Ca_takenBy_b77
      refine sb_Wlet (sb_Wlet ?_)
      rw [t3, show sb_n k + (1 : Int32) = sb_n (k + 1) from sb_n_add k 1]
      exact hv
    have b67 : (o = -1 ∨ (Ow (sb_r1 f Fr To Q b (c - k - 1 + 1) (sb_sq f Fr To Q b c a k)) : Int) = o) → sb_W (F_Ca_takenBy_b67 s (F_Ca_takenBy_b15 s n) (sb_i o) (sb_i (sb_tb f Fr To Ow Q b c a o k)) (sb_n c) (sb_n k) (sb_n (sb_r1 f Fr To Q b (c - k - 1 + 1) (sb_sq f Fr To Q b c a k))) (91 + sb_r1 f Fr To Q b (c - k - 1 + 1) (sb_sq f Fr To Q b c a k))) (fun r => r = sb_i (sb_tb f Fr To Ow Q b c a o c)) := by
      intro z
      unfold F_Ca_takenBy_b67
      refine sb_Wpos (by first | omega | (simp (disch := omega) only [sb_lit, sb_n_add, sb_n_mul, sb_n_ix, sb_n_lt, sb_n_le, sb_n_eq, sb_ib_n] <;> omega)) ?_
      refine sb_Wlet ?_
      rw [sb_n_ix (by omega), hP.1 _ rlt, sb_i_add]
      rw [if_pos z] at ih
      exact b77 _ ih
    rw [sb_m1]
    by_cases q : o = -1
    · exact sb_Wpos (by rw [q]) (b67 (Or.inl q))
    · refine sb_Wneg (by rw [sb_i_eq (by omega) (by omega) (by omega) (by omega)]; exact q) ?_
      rw [t1]
      by_cases q2 : (Ow (sb_r1 f Fr To Q b (c - k - 1 + 1) (sb_sq f Fr To Q b c a k)) : Int) = o
      · exact sb_Wpos (by rw [sb_n_i, q2]) (b67 (Or.inr q2))
      · refine sb_Wneg (by rw [sb_n_i, sb_i_eq (by omega) (by omega) (by omega) (by omega)]; exact q2) ?_
        rw [if_neg (by rintro (z | z); exact q z; exact q2 z), Int.add_zero] at ih
        exact b77 _ ih
end XC2
section PRC
variable {N K td Q T W Z : Nat} {A B O ZK : Nat → Nat} {M LO LD : Nat → Int} {LE : Nat → List sb_EF} {R TK WK : Nat → Nat → Int} {s : sv_S}
theorem sb_pt_rg2 (hL : sb_RL N A B M O) {r : Nat} {f : Nat → Int} (hf : sb_rok r f) {p : Int} (hp : 0 ≤ p) (hp9 : p ≤ 9999) (hp3 : f 1 = 3 → p ≤ 99) : -1 ≤ sb_pt N A B M O f p ∧ sb_pt N A B M O f p ≤ 29700 := by
  unfold sb_pt
  obtain ⟨h1, h2, h3, h4, _⟩ := hf
  have D := sb_D_rg hL (f 2) (a := (f 3).toNat) (b := (f 4).toNat) (by omega) (by omega)
  by_cases q : f 1 = 3
  · rw [if_pos q]
    by_cases w : sb_D N A B M O (f 2) (f 3).toNat (f 4).toNat < 100000
    · rw [if_pos w]; have m := sb_mulr (y := 99) (x := 3000) D.1 (D.2.2 w) hp (hp3 q); omega
    · rw [if_neg w]; omega
  · rw [if_neg q]; omega
theorem sb_fee_rg2 (hL : sb_RL N A B M O) {r : Nat} {f : Nat → Int} (hf : sb_rok r f) {p tons d : Int} {g : Nat} (hp : 0 ≤ p) (hp9 : p ≤ 9999) (hp3 : f 1 = 3 → p ≤ 99) (ht : 1 ≤ tons) (ht9 : tons ≤ 99) (hv : ∀ o w, 0 ≤ sb_v K LO LD LE o d w ∧ sb_v K LO LD LE o d w ≤ 9999) : -1 ≤ sb_fee N A B M O K LO LD LE f p g tons d ∧ sb_fee N A B M O K LO LD LE f p g tons d ≤ 4000000 := by
  unfold sb_fee
  have P := sb_pt_rg2 hL hf hp hp9 hp3
  have v1 := hv (f 2) 1
  have v2 := hv (f 2) 2
  by_cases q1 : ¬ (f 7 ≤ d ∧ (f 8 < 0 ∨ d < f 8))
  · rw [if_pos q1]; omega
  rw [if_neg q1]
  by_cases q2 : tons < f 9
  · rw [if_pos q2]; omega
  rw [if_neg q2]
  by_cases q3 : f 6 ≠ (if f 1 = 2 then (g : Int) else sb_v K LO LD LE (f 2) d (20 + g))
  · rw [if_pos q3]; omega
  rw [if_neg q3]
  by_cases q4 : sb_pt N A B M O f p < 0
  · rw [if_pos q4]; omega
  rw [if_neg q4]
  have m := sb_mulr (a := max tons (min (sb_v K LO LD LE (f 2) d 2) 99)) (b := sb_pt N A B M O f p + sb_v K LO LD LE (f 2) d 1) (x := 99) (y := 39699) (by omega) (by omega) (by omega) (by omega)
  omega
theorem sb_MX_RC (hW : sb_MW N A B M O K LO LD LE td Q R T TK W WK Z ZK) (h : sb_MX N A B M O K LO LD LE td Q R T TK W WK Z ZK s) : sb_RC Q (fun r => (R r 3).toNat) (fun r => (R r 4).toNat) (fun r => (R r 2).toNat) s := by
  refine ⟨hW.2.1, h.2.2.2.2.1.1, fun r hr => ?_⟩
  obtain ⟨h1, h2, h3, h4, _⟩ := hW.2.2.1 r hr
  rw [sb_fld h hr (f := 2) (by omega) (by omega), sb_fld h hr (f := 3) (by omega) (by omega), sb_fld h hr (f := 4) (by omega) (by omega), sb_in_n h2.1, sb_in_n h3.1, sb_in_n h4.1]
  exact ⟨rfl, rfl, rfl, show (R r 2).toNat < 6 by omega, show (R r 3).toNat < 16 by omega, show (R r 4).toNat < 16 by omega⟩
/-- the class prices all rates -/
theorem sb_price (hW : sb_MW N A B M O K LO LD LE td Q R T TK W WK Z ZK) (hL : sb_RL N A B M O) (hM : sb_LM K LO LD LE s) (h : sb_MX N A B M O K LO LD LE td Q R T TK W WK Z ZK s) {g : Nat} {tons d : Int} (hg : g < 20) (ht : 1 ≤ tons) (ht9 : tons ≤ 99) (hd : 0 ≤ d) (hd9 : d ≤ 9999) : sb_W (F_Ca_price (sb_n g) (sb_i tons) (sb_i d) s) (fun u => sb_fx [81003, 160, 161, 159004] s u ∧ sb_MX N A B M O K LO LD LE td Q R T TK W WK Z ZK u ∧ sb_PC Q (fun r => sb_fee N A B M O K LO LD LE (R r) (R r 5) g tons d) u) := by
  have hQ := hW.2.1
  have hv : ∀ o w, 0 ≤ sb_v K LO LD LE o d w ∧ sb_v K LO LD LE o d w ≤ 9999 := fun o w => ⟨(sb_v_rg hM o d w).1, (sb_v_rg hM o d w).2.1⟩
  have LMx : ∀ u, sb_fx [81003, 160, 161, 159004] s u → sb_LM K LO LD LE u := fun u hu => by
    have := sb_LM_fr (u := (u.1, s.2)) (M := [81003, 160, 161, 159004]) hM ⟨hu.1, rfl⟩ (by decide)
    unfold sb_LM at this ⊢; exact this
  have mxs : ∀ (u : sv_S) (c k : Nat) (v : Int32), (c = 159 ∧ k = 4) ∨ c = 160 ∨ c = 161 → sb_MX N A B M O K LO LD LE td Q R T TK W WK Z ZK u → sb_MX N A B M O K LO LD LE td Q R T TK W WK Z ZK (ss_setI u c k v) := by
    intro u c k v hc hu
    refine sb_MX_fr (L := [160, 161, 159004]) hQ hu (sb_fr_set (sb_fr_refl _ _) ?_) (by decide) (by decide)
    rcases hc with ⟨rfl, rfl⟩ | rfl | rfl <;> rfl
  unfold F_Ca_price
  refine sb_Wlet ?_
  refine sb_for (fun n r u => F_Ca_price_b8 n (sb_n g) (sb_i tons) (sb_i d) (sb_n r) u) Q (fun r u => sb_fx [81003, 160, 161, 159004] s u ∧ sb_MX N A B M O K LO LD LE td Q R T TK W WK Z ZK u ∧ (∀ q, q < r → u.1 160 q = sb_i (sb_fee N A B M O K LO LD LE (R q) (R q 5) g tons d)) ∧ u.1 159 4 = sb_n (sb_ct (fun r => sb_fee N A B M O K LO LD LE (R r) (R r 5) g tons d) r) ∧ ∀ q, q < r → 0 ≤ sb_fee N A B M O K LO LD LE (R q) (R q 5) g tons d → u.1 161 (sb_ct (fun r => sb_fee N A B M O K LO LD LE (R r) (R r 5) g tons d) q) = sb_n q) ?_ ?_ ss_F 0 _ (by omega) (by unfold ss_F; omega) ⟨sb_fx_set (sb_fx_refl _ _) rfl, mxs _ _ _ _ (Or.inl ⟨rfl, rfl⟩) h, fun q hq => absurd hq (by omega), sb_set_eq, fun q hq => absurd hq (by omega)⟩
  · intro n u hu
    simp only [F_Ca_price_b8]
    rw [hu.2.1.2.2.2.2.1.1]
    exact sb_Wpos (Int32.le_refl _) (sb_Wsome ⟨hu.1, hu.2.1, hu.2.2.1, hu.2.2.2.1, hu.2.2.2.2⟩)
  · intro n r u hr hu ih
    obtain ⟨u1, u2, u3, u4, u5⟩ := hu
    have rk := hW.2.2.1 r hr
    have ctl := sb_ct_le (f := fun r => sb_fee N A B M O K LO LD LE (R r) (R r 5) g tons d) r
    have fr := sb_fee_rg2 hL rk (p := R r 5) (tons := tons) (d := d) (g := g) rk.2.2.2.2.2.1.1 rk.2.2.2.2.2.1.2.1 rk.2.2.2.2.2.1.2.2 ht ht9 hv
    simp only [F_Ca_price_b8]
    rw [u2.2.2.2.2.1.1]
    refine sb_Wneg (by rw [sb_n_le (by omega) (by omega)]; omega) ?_
    rw [sb_row (by omega)]
    refine sb_Wbind (sb_Wsome (sb_Wpos (sb_ok91 (by omega)) ?_))
    rw [sb_fld u2 hr (f := 5) (by omega) (by omega)]
    refine sb_Wbind2 (sb_fee_X hW hL (LMx u u1) u2 hr rk.2.2.2.2.2.1.1 rk.2.2.2.2.2.1.2.1 hg ht ht9 hd hd9) (fun v hv' => ?_)
    obtain ⟨v1, v2, v3⟩ := hv'
    have f1 : sb_fx [81003, 160, 161, 159004] s v.2 := sb_fx_trans u1 (sb_fx_mono v3 (by decide))
    refine sb_Wpos (by first | omega | (simp (disch := omega) only [sb_lit, sb_n_add, sb_n_mul, sb_n_ix, sb_n_lt, sb_n_le, sb_n_eq, sb_ib_n] <;> omega)) ?_
    refine sb_Wlet ?_
    rw [v1, sb_n_ix (by omega)]
    refine sb_Wpos (by first | omega | (simp (disch := omega) only [sb_lit, sb_n_add, sb_n_mul, sb_n_ix, sb_n_lt, sb_n_le, sb_n_eq, sb_ib_n] <;> omega)) ?_
    have e160 : (ss_setI v.2 160 r (sb_i (sb_fee N A B M O K LO LD LE (R r) (R r 5) g tons d))).1 160 r = sb_i (sb_fee N A B M O K LO LD LE (R r) (R r 5) g tons d) := sb_set_eq
    have e159 : (ss_setI v.2 160 r (sb_i (sb_fee N A B M O K LO LD LE (R r) (R r 5) g tons d))).1 159 4 = sb_n (sb_ct (fun r => sb_fee N A B M O K LO LD LE (R r) (R r 5) g tons d) r) := by rw [sb_set_ne (by omega), v3.1 159 4 rfl]; exact u4
    rw [e160, e159]
    have keep3 : ∀ q, q < r → v.2.1 160 q = sb_i (sb_fee N A B M O K LO LD LE (R q) (R q 5) g tons d) := fun q hq => (v3.1 160 q rfl).trans (u3 q hq)
    have keep5 : ∀ q, q < r → 0 ≤ sb_fee N A B M O K LO LD LE (R q) (R q 5) g tons d → v.2.1 161 (sb_ct (fun r => sb_fee N A B M O K LO LD LE (R r) (R r 5) g tons d) q) = sb_n q := fun q hq z => (v3.1 161 _ rfl).trans (u5 q hq z)
    by_cases w : sb_fee N A B M O K LO LD LE (R r) (R r 5) g tons d < 0
    · refine sb_Wpos (by rw [show (0 : Int32) = sb_i 0 from sb_n_i 0, sb_i_lt (by omega) (by omega) (by omega) (by omega)]; exact w) ?_
      unfold F_Ca_price_b83
      refine sb_Wlet ?_
      rw [show sb_n r + (1 : Int32) = sb_n (r + 1) from sb_n_add r 1]
      refine ih _ ⟨sb_fx_set f1 rfl, mxs _ _ _ _ (Or.inr (Or.inl rfl)) v2, fun q hq => ?_, ?_, fun q hq z => ?_⟩
      · by_cases e : q = r
        · subst e; rw [sb_set_eq]
        · rw [sb_set_ne (by omega)]; exact keep3 q (by omega)
      · rw [e159]; simp only [sb_ct]; rw [if_neg (by omega)]; rfl
      · by_cases e : q = r
        · subst e; omega
        · rw [sb_set_ne (by omega)]; exact keep5 q (by omega) z
    · refine sb_Wneg (by rw [show (0 : Int32) = sb_i 0 from sb_n_i 0, sb_i_lt (by omega) (by omega) (by omega) (by omega)]; exact w) (sb_Wlet ?_)
      refine sb_Wpos (by first | omega | (simp (disch := omega) only [sb_lit, sb_n_add, sb_n_mul, sb_n_ix, sb_n_lt, sb_n_le, sb_n_eq, sb_ib_n] <;> omega)) ?_
      refine sb_Wlet ?_
      unfold F_Ca_price_b83
      refine sb_Wlet ?_
      rw [show sb_n r + (1 : Int32) = sb_n (r + 1) from sb_n_add r 1, sb_n_ix (by omega), show sb_n (sb_ct (fun r => sb_fee N A B M O K LO LD LE (R r) (R r 5) g tons d) r) + (1 : Int32) = sb_n (sb_ct (fun r => sb_fee N A B M O K LO LD LE (R r) (R r 5) g tons d) r + 1) from sb_n_add _ 1]
      refine ih _ ⟨sb_fx_set (sb_fx_set (sb_fx_set f1 rfl) rfl) rfl, mxs _ _ _ _ (Or.inr (Or.inr rfl)) (mxs _ _ _ _ (Or.inl ⟨rfl, rfl⟩) (mxs _ _ _ _ (Or.inr (Or.inl rfl)) v2)), fun q hq => ?_, ?_, fun q hq z => ?_⟩
      · rw [sb_set_ne (by omega), sb_set_ne (by omega)]
        by_cases e : q = r
        · subst e; rw [sb_set_eq]
        · rw [sb_set_ne (by omega)]; exact keep3 q (by omega)
      · rw [sb_set_ne (by omega), sb_set_eq]; simp only [sb_ct]; rw [if_pos (by omega)]
      · by_cases e : q = r
        · subst e; rw [sb_set_eq]
        · have lt : sb_ct (fun r => sb_fee N A B M O K LO LD LE (R r) (R r 5) g tons d) q ≠ sb_ct (fun r => sb_fee N A B M O K LO LD LE (R r) (R r 5) g tons d) r := fun z2 => e (sb_ct_inj z (by omega) z2)
          rw [sb_set_ne (by omega), sb_set_ne (by omega), sb_set_ne (by omega)]; exact keep5 q (by omega) z
end PRC
