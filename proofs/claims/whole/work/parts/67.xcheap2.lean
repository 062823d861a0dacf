/-! the class's least sums, and their rates -/
section XC2
variable {f : Nat → Int} {Fr To Ow : Nat → Nat} {Q b L : Nat} {s : sv_S}
theorem zb_leastFrom (h : zb_RW f Fr To Q b L s) {a : Nat} (ha : a < 16) : F_Ca_leastFrom (zb_n a) s = some (zb_i (if zb_Sx f Fr To Q b 8 a < zb_mu then zb_Sx f Fr To Q b 8 a else -1)) := by
  obtain ⟨h1, h2, h3, h4⟩ := h
  have mu := zb_Sx_mu (f := f) (Fr := Fr) (To := To) (Q := Q) (b := b) 8 a
  unfold zb_mu at mu
  unfold F_Ca_leastFrom
  have e : s.1 159 5 * (16 : Int32) + zb_n a = zb_n (16 * L + a) := by rw [h1, show (16 : Int32) = zb_n 16 from rfl, zb_n_mul, zb_n_add, Nat.mul_comm]
  rw [e, if_pos (by rw [zb_ib_n (by omega)]; omega), zb_n_ix (by omega), h3 L a (Nat.le_refl _) ha, h4 a ha, zb_m1]
  simp only [ss_let]
  have z : (zb_i (zb_Sx f Fr To Q b 8 a) < (1000000000 : Int32)) = (zb_Sx f Fr To Q b 8 a < zb_mu) := by rw [show (1000000000 : Int32) = zb_i 1000000000 from zb_n_i 1000000000]; exact zb_i_lt (by omega) (by omega) (by omega) (by omega)
  simp only [z]
  split <;> rfl
theorem zb_legsFrom (h : zb_RW f Fr To Q b L s) {a : Nat} (ha : a < 16) : zb_W (F_Ca_legsFrom (zb_n a) s) (fun r => r = zb_n (zb_cm f Fr To Q b a) ∧ zb_cm f Fr To Q b a ≤ L) := by
  obtain ⟨h1, h2, h3, h4⟩ := h
  have mu := fun n => zb_Sx_mu (f := f) (Fr := Fr) (To := To) (Q := Q) (b := b) n a
  unfold zb_mu at mu
  obtain ⟨c1, c2, c3⟩ := zb_cm_ok (f := f) (Fr := Fr) (To := To) (Q := Q) (b := b) a
  have cL : zb_cm f Fr To Q b a ≤ L := by
    by_cases q : L < zb_cm f Fr To Q b a
    · have := c3 L q; rw [h4 a ha] at this; omega
    · omega
  unfold F_Ca_legsFrom
  have e : s.1 159 5 * (16 : Int32) + zb_n a = zb_n (16 * L + a) := by rw [h1, show (16 : Int32) = zb_n 16 from rfl, zb_n_mul, zb_n_add, Nat.mul_comm]
  rw [e]
  refine zb_Wpos (by first | omega | (simp (disch := omega) only [zb_lit, zb_n_add, zb_n_mul, zb_n_ix, zb_n_lt, zb_n_le, zb_n_eq, zb_ib_n] <;> omega)) ?_
  refine zb_Wlet ?_
  rw [zb_n_ix (by omega), h3 L a (Nat.le_refl _) ha, h4 a ha]
  refine zb_for0 (fun n k => F_Ca_legsFrom_b17 s n (zb_n a) (zb_i (zb_Sx f Fr To Q b 8 a)) (zb_n k)) (zb_cm f Fr To Q b a) (fun _ => True) ?_ ?_ ss_F 0 (by omega) (by unfold ss_F; omega) trivial
  · intro n _
    simp only [F_Ca_legsFrom_b17]
    rw [h1]
    by_cases q : zb_cm f Fr To Q b a = L
    · refine zb_Wpos (by rw [q]; exact Int32.le_refl _) (zb_Wsome ⟨by rw [q], cL⟩)
    · refine zb_Wneg (by rw [zb_n_le (by omega) (by omega)]; omega) ?_
      have e2 : zb_n (zb_cm f Fr To Q b a) * (16 : Int32) + zb_n a = zb_n (16 * zb_cm f Fr To Q b a + a) := by rw [show (16 : Int32) = zb_n 16 from rfl, zb_n_mul, zb_n_add, Nat.mul_comm]
      rw [e2]
      refine zb_Wpos (by first | omega | (simp (disch := omega) only [zb_lit, zb_n_add, zb_n_mul, zb_n_ix, zb_n_lt, zb_n_le, zb_n_eq, zb_ib_n] <;> omega)) ?_
      rw [zb_n_ix (by omega), h3 _ a (by omega) ha]
      exact zb_Wpos (by rw [c2]) (zb_Wsome ⟨rfl, cL⟩)
  · intro n k hk _ ih
    simp only [F_Ca_legsFrom_b17]
    rw [h1]
    refine zb_Wneg (by rw [zb_n_le (by omega) (by omega)]; omega) ?_
    have e2 : zb_n k * (16 : Int32) + zb_n a = zb_n (16 * k + a) := by rw [show (16 : Int32) = zb_n 16 from rfl, zb_n_mul, zb_n_add, Nat.mul_comm]
    rw [e2]
    refine zb_Wpos (by first | omega | (simp (disch := omega) only [zb_lit, zb_n_add, zb_n_mul, zb_n_ix, zb_n_lt, zb_n_le, zb_n_eq, zb_ib_n] <;> omega)) ?_
    rw [zb_n_ix (by omega), h3 _ a (by omega) ha]
    have m8 := mu 8
    have mk := mu k
    refine zb_Wneg (by rw [zb_i_eq (by omega) (by omega) (by omega) (by omega)]; have := c3 k hk; omega) (zb_Wlet ?_)
    rw [show zb_n k + (1 : Int32) = zb_n (k + 1) from zb_n_add k 1]
    exact ih trivial
theorem zb_firstLeg (hf : ∀ r, r < Q → f r ≤ 4000000) (hC : zb_RC Q Fr To Ow s) (hP : zb_PC Q f s) (h : zb_RW f Fr To Q b L s) {n x : Nat} (hn : n + 1 ≤ L) (hx : x < 16) (hj : zb_ju f Fr To Q b (n + 1) x) : zb_W (F_Ca_firstLeg (zb_n x) (zb_n (n + 1)) s) (fun r => r = zb_n (zb_r1 f Fr To Q b (n + 1) x)) := by
  obtain ⟨h1, h2, h3, h4⟩ := h
  have hQ := hC.1
  have mu := zb_Sx_mu (f := f) (Fr := Fr) (To := To) (Q := Q) (b := b)
  have ctl := zb_ct_le (f := f) Q
  obtain ⟨j1, j2, j3, j4⟩ := zb_r1_ok hj
  have hc2 := j2
  unfold zb_c2 at hc2
  rw [decide_eq_true_eq] at hc2
  unfold F_Ca_firstLeg
  refine zb_Wpos (by rw [show (1 : Int32) = zb_n 1 from rfl, zb_n_le (by omega) (by omega)]; omega) (zb_Wlet ?_)
  have e1 : zb_n (n + 1) * (16 : Int32) = zb_n (16 * (n + 1)) := by rw [show (16 : Int32) = zb_n 16 from rfl, zb_n_mul, Nat.mul_comm]
  have e2 : zb_n (16 * (n + 1)) - (16 : Int32) = zb_n (16 * n) := by rw [show (16 : Int32) = zb_n 16 from rfl, zb_n_sub (by omega)]; congr 1
  rw [e1]
  refine zb_while (fun m (k : Nat) => F_Ca_firstLeg_b15 s m (zb_n x) (zb_n (16 * (n + 1))) (zb_n k)) (fun k => ∃ r, r ≤ zb_r1 f Fr To Q b (n + 1) x ∧ zb_ct f r = k) (fun k => 60 - k) ?_ ss_F 0 ⟨0, by omega, rfl⟩ (by unfold ss_F; omega)
  intro m k hI ih
  obtain ⟨r, r1, r2⟩ := hI
  have ctr := zb_ct_le (f := f) r
  have lt : zb_ct f r < zb_ct f Q := by
    have a1 : zb_ct f (zb_r1 f Fr To Q b (n + 1) x + 1) = zb_ct f (zb_r1 f Fr To Q b (n + 1) x) + 1 := by simp only [zb_ct]; rw [if_pos hc2.1]
    have a2 := zb_ct_mono (f := f) r1
    have a3 := zb_ct_mono (f := f) (r := zb_r1 f Fr To Q b (n + 1) x + 1) (q := Q) (by omega)
    omega
  obtain ⟨j, q1, q2, q3, q4, q5⟩ := zb_ct_nx (f := f) (Q := Q) (Q - r) r (by omega) lt
  have jle : j ≤ zb_r1 f Fr To Q b (n + 1) x := by
    by_cases w : zb_r1 f Fr To Q b (n + 1) x < j
    · have := q5 _ r1 w; omega
    · omega
  have e161 : s.1 161 k = zb_n j := by rw [← r2, ← q4]; exact hP.2.2 j q2 q3
  have e160 : s.1 160 j = zb_i (f j) := hP.1 j q2
  obtain ⟨t1, t2, t3, t4, t5, t6⟩ := hC.2.2 j q2
  have ef : s.1 162 (16 * n + To j) = zb_i (zb_Sx f Fr To Q b n (To j)) := h3 n _ (by omega) t6
  have eg : s.1 162 (16 * (n + 1) + x) = zb_i (zb_Sx f Fr To Q b (n + 1) x) := h3 (n + 1) x hn hx
  have m1 := mu n (To j)
  have m2 := mu (n + 1) x
  have fj := hf j q2
  unfold zb_mu at m1 m2
  simp only [F_Ca_firstLeg_b15]
  rw [hP.2.1]
  refine zb_Wneg (by rw [zb_n_le (by omega) (by omega)]; omega) ?_
  refine zb_Wpos (by first | omega | (simp (disch := omega) only [zb_lit, zb_n_add, zb_n_mul, zb_n_ix, zb_n_lt, zb_n_le, zb_n_eq, zb_ib_n] <;> omega)) ?_
  rw [zb_n_ix (by omega), e161, zb_row (by omega)]
  refine zb_Wbind (zb_Wsome ?_)
  refine zb_Wpos (zb_ok91 (by omega)) ?_
  rw [t2, t3, e2]
  have skip : zb_c2 f Fr To Q b n x j = false → zb_W (F_Ca_firstLeg_b100 s (F_Ca_firstLeg_b15 s m) (zb_n x) (zb_n (16 * (n + 1))) (zb_n k)) (fun r => r = zb_n (zb_r1 f Fr To Q b (n + 1) x)) := by
    intro z
    unfold F_Ca_firstLeg_b100
    refine zb_Wlet ?_
    rw [show zb_n k + (1 : Int32) = zb_n (k + 1) from zb_n_add k 1]
    have ne : j ≠ zb_r1 f Fr To Q b (n + 1) x := by intro e; rw [← e, z] at j2; cases j2
    refine ih (k + 1) ⟨j + 1, by omega, ?_⟩ (by omega)
    simp only [zb_ct]; rw [if_pos q3]; omega
  simp (disch := omega) only [zb_lit, zb_n_add, zb_n_mul, zb_n_ix, zb_n_lt, zb_n_le, zb_n_eq, zb_ib_n, e160, ef, eg, zb_i_add, zb_i_eq]
  rw [if_pos (by omega), if_pos (by omega), if_pos (by omega)]
  refine zb_Wlet ?_
  by_cases w1 : Fr j = x
  · refine zb_Wpos w1 (zb_Wpos (by omega) ?_)
    simp (disch := omega) only [zb_i_eq]
    by_cases w2 : zb_Sx f Fr To Q b n (To j) + f j = zb_Sx f Fr To Q b (n + 1) x
    · refine zb_Wpos w2 (zb_Wpos (by omega) (zb_Wsome ?_))
      have c2j : zb_c2 f Fr To Q b n x j = true := by unfold zb_c2; rw [decide_eq_true_eq]; exact ⟨q3, w1, by omega⟩
      have : j = zb_r1 f Fr To Q b (n + 1) x := by
        by_cases e : j < zb_r1 f Fr To Q b (n + 1) x
        · rw [j3 j e] at c2j; cases c2j
        · omega
      rw [this]
    · refine zb_Wneg w2 (skip ?_)
      unfold zb_c2; rw [decide_eq_false_iff_not]; intro z; omega
  · refine zb_Wneg w1 (skip ?_)
    unfold zb_c2; rw [decide_eq_false_iff_not]; intro z; exact w1 z.2.1
theorem zb_sq_lt (hC : zb_RC Q Fr To Ow s) {c a : Nat} (hj : zb_ju f Fr To Q b c a) (ha : a < 16) : ∀ i, i ≤ c → zb_sq f Fr To Q b c a i < 16
  | 0, _ => ha
  | i + 1, hi => by
    have j := zb_sq_ju hj i (by omega)
    have e : c - i = c - (i + 1) + 1 := by omega
    rw [e] at j
    have := (zb_r1_ok j).1
    simp only [zb_sq]; rw [e]
    exact (hC.2.2 _ this).2.2.2.2.2
/-- the i-th rate of a least sum -/
def zb_ri (f : Nat → Int) (Fr To : Nat → Nat) (Q b c a i : Nat) : Nat := zb_r1 f Fr To Q b (c - i) (zb_sq f Fr To Q b c a i)
theorem zb_leg (hf : ∀ r, r < Q → f r ≤ 4000000) (hC : zb_RC Q Fr To Ow s) (hP : zb_PC Q f s) (h : zb_RW f Fr To Q b L s) {a i : Nat} (ha : a < 16) (hlt : zb_Sx f Fr To Q b 8 a < zb_mu) (hi : i < zb_cm f Fr To Q b a) : zb_W (F_Ca_leg (zb_n a) (zb_n i) s) (fun r => r = zb_n (zb_ri f Fr To Q b (zb_cm f Fr To Q b a) a i)) := by
  have hQ := hC.1
  have hj := zb_cm_ju hlt
  have c8 := (zb_cm_ok (f := f) (Fr := Fr) (To := To) (Q := Q) (b := b) a).1
  unfold F_Ca_leg
  refine zb_Wbind2 (zb_legsFrom h ha) (fun r hr => ?_)
  obtain ⟨rfl, cL⟩ := hr
  generalize zb_cm f Fr To Q b a = c at *
  refine zb_for0 (fun n k => F_Ca_leg_b12 s n (zb_n i) (zb_n (zb_sq f Fr To Q b c a k)) (zb_n c) (zb_n k)) i (fun _ => True) ?_ ?_ ss_F 0 (by omega) (by unfold ss_F; omega) trivial
  · intro n _
    have jk := zb_sq_ju hj i (by omega)
    rw [show c - i = c - i - 1 + 1 by omega] at jk
    simp only [F_Ca_leg_b12]
    refine zb_Wneg (by first | omega | (simp (disch := omega) only [zb_lit, zb_n_add, zb_n_mul, zb_n_ix, zb_n_lt, zb_n_le, zb_n_eq, zb_ib_n] <;> omega)) ?_
    rw [zb_n_sub (by omega), show c - i = c - i - 1 + 1 by omega]
    refine zb_Wbind2 (zb_firstLeg hf hC hP h (by omega) (zb_sq_lt hC hj ha i (by omega)) jk) (fun r hr => ?_)
    subst hr
    refine zb_Wpos (by trivial) (zb_Wsome ?_)
    unfold zb_ri; rw [show c - i - 1 + 1 = c - i by omega]
  · intro n k hk _ ih
    have jk := zb_sq_ju hj k (by omega)
    rw [show c - k = c - k - 1 + 1 by omega] at jk
    have rlt := (zb_r1_ok jk).1
    simp only [F_Ca_leg_b12]
    refine zb_Wneg (by first | omega | (simp (disch := omega) only [zb_lit, zb_n_add, zb_n_mul, zb_n_ix, zb_n_lt, zb_n_le, zb_n_eq, zb_ib_n] <;> omega)) ?_
    rw [zb_n_sub (by omega), show c - k = c - k - 1 + 1 by omega]
    refine zb_Wbind2 (zb_firstLeg hf hC hP h (by omega) (zb_sq_lt hC hj ha k (by omega)) jk) (fun r hr => ?_)
    subst hr
    refine zb_Wneg (by rw [zb_n_eq (by omega) (by omega)]; omega) ?_
    refine zb_Wpos (by rw [show (0 : Int32) = zb_n 0 from rfl, zb_n_le (by omega) (by omega)]; omega) ?_
    rw [zb_row (by omega)]
    refine zb_Wbind (zb_Wsome (zb_Wpos (zb_ok91 (by omega)) (zb_Wlet (zb_Wlet ?_))))
    rw [(hC.2.2 _ rlt).2.2.1, show zb_n k + (1 : Int32) = zb_n (k + 1) from zb_n_add k 1]
    have := ih trivial
    simp only [zb_sq] at this
    rw [show c - k = c - k - 1 + 1 by omega] at this
    exact this
/-- what an owner has of a least sum, or all have -/
def zb_tb (f : Nat → Int) (Fr To Ow : Nat → Nat) (Q b c a : Nat) (o : Int) : Nat → Int
  | 0 => 0
  | i + 1 => zb_tb f Fr To Ow Q b c a o i + (if o = -1 ∨ (Ow (zb_ri f Fr To Q b c a i) : Int) = o then f (zb_ri f Fr To Q b c a i) else 0)
theorem zb_takenBy (hf : ∀ r, r < Q → f r ≤ 4000000) (hC : zb_RC Q Fr To Ow s) (hP : zb_PC Q f s) (h : zb_RW f Fr To Q b L s) {a : Nat} {o : Int} (ho : -1 ≤ o) (ho5 : o ≤ 5) (ha : a < 16) (hlt : zb_Sx f Fr To Q b 8 a < zb_mu) : zb_W (F_Ca_takenBy (zb_i o) (zb_n a) s) (fun r => r = zb_i (zb_tb f Fr To Ow Q b (zb_cm f Fr To Q b a) a o (zb_cm f Fr To Q b a))) := by
  have hQ := hC.1
  have hj := zb_cm_ju hlt
  have c8 := (zb_cm_ok (f := f) (Fr := Fr) (To := To) (Q := Q) (b := b) a).1
  unfold F_Ca_takenBy
  refine zb_Wbind2 (zb_legsFrom h ha) (fun r hr => ?_)
  obtain ⟨rfl, cL⟩ := hr
  generalize zb_cm f Fr To Q b a = c at *
  refine zb_for0 (fun n k => F_Ca_takenBy_b15 s n (zb_i o) (zb_i (zb_tb f Fr To Ow Q b c a o k)) (zb_n c) (zb_n (zb_sq f Fr To Q b c a k)) (zb_n k)) c (fun _ => True) ?_ ?_ ss_F 0 (by omega) (by unfold ss_F; omega) trivial
  · intro n _
    simp only [F_Ca_takenBy_b15]
    exact zb_Wpos (Int32.le_refl _) (zb_Wsome rfl)
  · intro n k hk _ ih
    have jk := zb_sq_ju hj k (by omega)
    rw [show c - k = c - k - 1 + 1 by omega] at jk
    have rlt := (zb_r1_ok jk).1
    have e : zb_ri f Fr To Q b c a k = zb_r1 f Fr To Q b (c - k - 1 + 1) (zb_sq f Fr To Q b c a k) := by unfold zb_ri; congr 1; omega
    obtain ⟨t1, t2, t3, t4, t5, t6⟩ := hC.2.2 _ rlt
    simp only [F_Ca_takenBy_b15]
    refine zb_Wneg (by rw [zb_n_le (by omega) (by omega)]; omega) ?_
    rw [zb_n_sub (by omega), show c - k = c - k - 1 + 1 by omega]
    refine zb_Wbind2 (zb_firstLeg hf hC hP h (by omega) (zb_sq_lt hC hj ha k (by omega)) jk) (fun r hr => ?_)
    subst hr
    refine zb_Wpos (by rw [show (0 : Int32) = zb_n 0 from rfl, zb_n_le (by omega) (by omega)]; omega) ?_
    rw [zb_row (by omega)]
    refine zb_Wbind (zb_Wsome (zb_Wpos (zb_ok91 (by omega)) ?_))
    have ih := ih trivial
    simp only [zb_sq, zb_tb] at ih
    have e2 : zb_r1 f Fr To Q b (c - k) (zb_sq f Fr To Q b c a k) = zb_ri f Fr To Q b c a k := rfl
    rw [e2, e] at ih
    have b77 : ∀ v : Int, zb_W (F_Ca_takenBy_b15 s n (zb_i o) (zb_i v) (zb_n c) (zb_n (To (zb_r1 f Fr To Q b (c - k - 1 + 1) (zb_sq f Fr To Q b c a k)))) (zb_n (k + 1))) (fun r => r = zb_i (zb_tb f Fr To Ow Q b c a o c)) → zb_W (F_Ca_takenBy_b77 s (F_Ca_takenBy_b15 s n) (zb_i o) (zb_i v) (zb_n c) (zb_n k) (91 + zb_r1 f Fr To Q b (c - k - 1 + 1) (zb_sq f Fr To Q b c a k))) (fun r => r = zb_i (zb_tb f Fr To Ow Q b c a o c)) := by
      intro v hv
      unfold F_Ca_takenBy_b77
      refine zb_Wlet (zb_Wlet ?_)
      rw [t3, show zb_n k + (1 : Int32) = zb_n (k + 1) from zb_n_add k 1]
      exact hv
    have b67 : (o = -1 ∨ (Ow (zb_r1 f Fr To Q b (c - k - 1 + 1) (zb_sq f Fr To Q b c a k)) : Int) = o) → zb_W (F_Ca_takenBy_b67 s (F_Ca_takenBy_b15 s n) (zb_i o) (zb_i (zb_tb f Fr To Ow Q b c a o k)) (zb_n c) (zb_n k) (zb_n (zb_r1 f Fr To Q b (c - k - 1 + 1) (zb_sq f Fr To Q b c a k))) (91 + zb_r1 f Fr To Q b (c - k - 1 + 1) (zb_sq f Fr To Q b c a k))) (fun r => r = zb_i (zb_tb f Fr To Ow Q b c a o c)) := by
      intro z
      unfold F_Ca_takenBy_b67
      refine zb_Wpos (by first | omega | (simp (disch := omega) only [zb_lit, zb_n_add, zb_n_mul, zb_n_ix, zb_n_lt, zb_n_le, zb_n_eq, zb_ib_n] <;> omega)) ?_
      refine zb_Wlet ?_
      rw [zb_n_ix (by omega), hP.1 _ rlt, zb_i_add]
      rw [if_pos z] at ih
      exact b77 _ ih
    rw [zb_m1]
    by_cases q : o = -1
    · exact zb_Wpos (by rw [q]) (b67 (Or.inl q))
    · refine zb_Wneg (by rw [zb_i_eq (by omega) (by omega) (by omega) (by omega)]; exact q) ?_
      rw [t1]
      by_cases q2 : (Ow (zb_r1 f Fr To Q b (c - k - 1 + 1) (zb_sq f Fr To Q b c a k)) : Int) = o
      · exact zb_Wpos (by rw [zb_n_i, q2]) (b67 (Or.inr q2))
      · refine zb_Wneg (by rw [zb_n_i, zb_i_eq (by omega) (by omega) (by omega) (by omega)]; exact q2) ?_
        rw [if_neg (by rintro (z | z); exact q z; exact q2 z), Int.add_zero] at ih
        exact b77 _ ih
end XC2
section PRC
variable {N K td Q T W Z : Nat} {A B O ZK : Nat → Nat} {M LO LD : Nat → Int} {LE : Nat → List zb_EF} {R TK WK : Nat → Nat → Int} {s : sv_S}
theorem zb_pt_rg2 (hL : zb_RL N A B M O) {r : Nat} {f : Nat → Int} (hf : zb_rok r f) {p : Int} (hp : 0 ≤ p) (hp9 : p ≤ 9999) (hp3 : f 1 = 3 → p ≤ 99) : -1 ≤ zb_pt N A B M O f p ∧ zb_pt N A B M O f p ≤ 29700 := by
  unfold zb_pt
  obtain ⟨h1, h2, h3, h4, _⟩ := hf
  have D := zb_D_rg hL (f 2) (a := (f 3).toNat) (b := (f 4).toNat) (by omega) (by omega)
  by_cases q : f 1 = 3
  · rw [if_pos q]
    by_cases w : zb_D N A B M O (f 2) (f 3).toNat (f 4).toNat < 100000
    · rw [if_pos w]; have m := zb_mulr (y := 99) (x := 3000) D.1 (D.2.2 w) hp (hp3 q); omega
    · rw [if_neg w]; omega
  · rw [if_neg q]; omega
theorem zb_fee_rg2 (hL : zb_RL N A B M O) {r : Nat} {f : Nat → Int} (hf : zb_rok r f) {p tons d : Int} {g : Nat} (hp : 0 ≤ p) (hp9 : p ≤ 9999) (hp3 : f 1 = 3 → p ≤ 99) (ht : 1 ≤ tons) (ht9 : tons ≤ 99) (hv : ∀ o w, 0 ≤ zb_v K LO LD LE o d w ∧ zb_v K LO LD LE o d w ≤ 9999) : -1 ≤ zb_fee N A B M O K LO LD LE f p g tons d ∧ zb_fee N A B M O K LO LD LE f p g tons d ≤ 4000000 := by
  unfold zb_fee
  have P := zb_pt_rg2 hL hf hp hp9 hp3
  have v1 := hv (f 2) 1
  have v2 := hv (f 2) 2
  by_cases q1 : ¬ (f 7 ≤ d ∧ (f 8 < 0 ∨ d < f 8))
  · rw [if_pos q1]; omega
  rw [if_neg q1]
  by_cases q2 : tons < f 9
  · rw [if_pos q2]; omega
  rw [if_neg q2]
  by_cases q3 : f 6 ≠ (if f 1 = 2 then (g : Int) else zb_v K LO LD LE (f 2) d (20 + g))
  · rw [if_pos q3]; omega
  rw [if_neg q3]
  by_cases q4 : zb_pt N A B M O f p < 0
  · rw [if_pos q4]; omega
  rw [if_neg q4]
  have m := zb_mulr (a := max tons (min (zb_v K LO LD LE (f 2) d 2) 99)) (b := zb_pt N A B M O f p + zb_v K LO LD LE (f 2) d 1) (x := 99) (y := 39699) (by omega) (by omega) (by omega) (by omega)
  omega
theorem zb_MX_RC (hW : zb_MW N A B M O K LO LD LE td Q R T TK W WK Z ZK) (h : zb_MX N A B M O K LO LD LE td Q R T TK W WK Z ZK s) : zb_RC Q (fun r => (R r 3).toNat) (fun r => (R r 4).toNat) (fun r => (R r 2).toNat) s := by
  refine ⟨hW.2.1, h.2.2.2.2.1.1, fun r hr => ?_⟩
  obtain ⟨h1, h2, h3, h4, _⟩ := hW.2.2.1 r hr
  rw [zb_fld h hr (f := 2) (by omega) (by omega), zb_fld h hr (f := 3) (by omega) (by omega), zb_fld h hr (f := 4) (by omega) (by omega), zb_in_n h2.1, zb_in_n h3.1, zb_in_n h4.1]
  exact ⟨rfl, rfl, rfl, show (R r 2).toNat < 6 by omega, show (R r 3).toNat < 16 by omega, show (R r 4).toNat < 16 by omega⟩
/-- the class prices all rates -/
theorem zb_price (hW : zb_MW N A B M O K LO LD LE td Q R T TK W WK Z ZK) (hL : zb_RL N A B M O) (hM : zb_LM K LO LD LE s) (h : zb_MX N A B M O K LO LD LE td Q R T TK W WK Z ZK s) {g : Nat} {tons d : Int} (hg : g < 20) (ht : 1 ≤ tons) (ht9 : tons ≤ 99) (hd : 0 ≤ d) (hd9 : d ≤ 9999) : zb_W (F_Ca_price (zb_n g) (zb_i tons) (zb_i d) s) (fun u => zb_fx [81003, 160, 161, 159004] s u ∧ zb_MX N A B M O K LO LD LE td Q R T TK W WK Z ZK u ∧ zb_PC Q (fun r => zb_fee N A B M O K LO LD LE (R r) (R r 5) g tons d) u) := by
  have hQ := hW.2.1
  have hv : ∀ o w, 0 ≤ zb_v K LO LD LE o d w ∧ zb_v K LO LD LE o d w ≤ 9999 := fun o w => ⟨(zb_v_rg hM o d w).1, (zb_v_rg hM o d w).2.1⟩
  have LMx : ∀ u, zb_fx [81003, 160, 161, 159004] s u → zb_LM K LO LD LE u := fun u hu => by
    have := zb_LM_fr (u := (u.1, s.2)) (M := [81003, 160, 161, 159004]) hM ⟨hu.1, rfl⟩ (by decide)
    unfold zb_LM at this ⊢; exact this
  have mxs : ∀ (u : sv_S) (c k : Nat) (v : Int32), (c = 159 ∧ k = 4) ∨ c = 160 ∨ c = 161 → zb_MX N A B M O K LO LD LE td Q R T TK W WK Z ZK u → zb_MX N A B M O K LO LD LE td Q R T TK W WK Z ZK (ss_setI u c k v) := by
    intro u c k v hc hu
    refine zb_MX_fr (L := [160, 161, 159004]) hQ hu (zb_fr_set (zb_fr_refl _ _) ?_) (by decide) (by decide)
    rcases hc with ⟨rfl, rfl⟩ | rfl | rfl <;> rfl
  unfold F_Ca_price
  refine zb_Wlet ?_
  refine zb_for (fun n r u => F_Ca_price_b8 n (zb_n g) (zb_i tons) (zb_i d) (zb_n r) u) Q (fun r u => zb_fx [81003, 160, 161, 159004] s u ∧ zb_MX N A B M O K LO LD LE td Q R T TK W WK Z ZK u ∧ (∀ q, q < r → u.1 160 q = zb_i (zb_fee N A B M O K LO LD LE (R q) (R q 5) g tons d)) ∧ u.1 159 4 = zb_n (zb_ct (fun r => zb_fee N A B M O K LO LD LE (R r) (R r 5) g tons d) r) ∧ ∀ q, q < r → 0 ≤ zb_fee N A B M O K LO LD LE (R q) (R q 5) g tons d → u.1 161 (zb_ct (fun r => zb_fee N A B M O K LO LD LE (R r) (R r 5) g tons d) q) = zb_n q) ?_ ?_ ss_F 0 _ (by omega) (by unfold ss_F; omega) ⟨zb_fx_set (zb_fx_refl _ _) rfl, mxs _ _ _ _ (Or.inl ⟨rfl, rfl⟩) h, fun q hq => absurd hq (by omega), zb_set_eq, fun q hq => absurd hq (by omega)⟩
  · intro n u hu
    simp only [F_Ca_price_b8]
    rw [hu.2.1.2.2.2.2.1.1]
    exact zb_Wpos (Int32.le_refl _) (zb_Wsome ⟨hu.1, hu.2.1, hu.2.2.1, hu.2.2.2.1, hu.2.2.2.2⟩)
  · intro n r u hr hu ih
    obtain ⟨u1, u2, u3, u4, u5⟩ := hu
    have rk := hW.2.2.1 r hr
    have ctl := zb_ct_le (f := fun r => zb_fee N A B M O K LO LD LE (R r) (R r 5) g tons d) r
    have fr := zb_fee_rg2 hL rk (p := R r 5) (tons := tons) (d := d) (g := g) rk.2.2.2.2.2.1.1 rk.2.2.2.2.2.1.2.1 rk.2.2.2.2.2.1.2.2 ht ht9 hv
    simp only [F_Ca_price_b8]
    rw [u2.2.2.2.2.1.1]
    refine zb_Wneg (by rw [zb_n_le (by omega) (by omega)]; omega) ?_
    rw [zb_row (by omega)]
    refine zb_Wbind (zb_Wsome (zb_Wpos (zb_ok91 (by omega)) ?_))
    rw [zb_fld u2 hr (f := 5) (by omega) (by omega)]
    refine zb_Wbind2 (zb_fee_X hW hL (LMx u u1) u2 hr rk.2.2.2.2.2.1.1 rk.2.2.2.2.2.1.2.1 hg ht ht9 hd hd9) (fun v hv' => ?_)
    obtain ⟨v1, v2, v3⟩ := hv'
    have f1 : zb_fx [81003, 160, 161, 159004] s v.2 := zb_fx_trans u1 (zb_fx_mono v3 (by decide))
    refine zb_Wpos (by first | omega | (simp (disch := omega) only [zb_lit, zb_n_add, zb_n_mul, zb_n_ix, zb_n_lt, zb_n_le, zb_n_eq, zb_ib_n] <;> omega)) ?_
    refine zb_Wlet ?_
    rw [v1, zb_n_ix (by omega)]
    refine zb_Wpos (by first | omega | (simp (disch := omega) only [zb_lit, zb_n_add, zb_n_mul, zb_n_ix, zb_n_lt, zb_n_le, zb_n_eq, zb_ib_n] <;> omega)) ?_
    have e160 : (ss_setI v.2 160 r (zb_i (zb_fee N A B M O K LO LD LE (R r) (R r 5) g tons d))).1 160 r = zb_i (zb_fee N A B M O K LO LD LE (R r) (R r 5) g tons d) := zb_set_eq
    have e159 : (ss_setI v.2 160 r (zb_i (zb_fee N A B M O K LO LD LE (R r) (R r 5) g tons d))).1 159 4 = zb_n (zb_ct (fun r => zb_fee N A B M O K LO LD LE (R r) (R r 5) g tons d) r) := by rw [zb_set_ne (by omega), v3.1 159 4 rfl]; exact u4
    rw [e160, e159]
    have keep3 : ∀ q, q < r → v.2.1 160 q = zb_i (zb_fee N A B M O K LO LD LE (R q) (R q 5) g tons d) := fun q hq => (v3.1 160 q rfl).trans (u3 q hq)
    have keep5 : ∀ q, q < r → 0 ≤ zb_fee N A B M O K LO LD LE (R q) (R q 5) g tons d → v.2.1 161 (zb_ct (fun r => zb_fee N A B M O K LO LD LE (R r) (R r 5) g tons d) q) = zb_n q := fun q hq z => (v3.1 161 _ rfl).trans (u5 q hq z)
    by_cases w : zb_fee N A B M O K LO LD LE (R r) (R r 5) g tons d < 0
    · refine zb_Wpos (by rw [show (0 : Int32) = zb_i 0 from zb_n_i 0, zb_i_lt (by omega) (by omega) (by omega) (by omega)]; exact w) ?_
      unfold F_Ca_price_b83
      refine zb_Wlet ?_
      rw [show zb_n r + (1 : Int32) = zb_n (r + 1) from zb_n_add r 1]
      refine ih _ ⟨zb_fx_set f1 rfl, mxs _ _ _ _ (Or.inr (Or.inl rfl)) v2, fun q hq => ?_, ?_, fun q hq z => ?_⟩
      · by_cases e : q = r
        · subst e; rw [zb_set_eq]
        · rw [zb_set_ne (by omega)]; exact keep3 q (by omega)
      · rw [e159]; simp only [zb_ct]; rw [if_neg (by omega)]; rfl
      · by_cases e : q = r
        · subst e; omega
        · rw [zb_set_ne (by omega)]; exact keep5 q (by omega) z
    · refine zb_Wneg (by rw [show (0 : Int32) = zb_i 0 from zb_n_i 0, zb_i_lt (by omega) (by omega) (by omega) (by omega)]; exact w) (zb_Wlet ?_)
      refine zb_Wpos (by first | omega | (simp (disch := omega) only [zb_lit, zb_n_add, zb_n_mul, zb_n_ix, zb_n_lt, zb_n_le, zb_n_eq, zb_ib_n] <;> omega)) ?_
      refine zb_Wlet ?_
      unfold F_Ca_price_b83
      refine zb_Wlet ?_
      rw [show zb_n r + (1 : Int32) = zb_n (r + 1) from zb_n_add r 1, zb_n_ix (by omega), show zb_n (zb_ct (fun r => zb_fee N A B M O K LO LD LE (R r) (R r 5) g tons d) r) + (1 : Int32) = zb_n (zb_ct (fun r => zb_fee N A B M O K LO LD LE (R r) (R r 5) g tons d) r + 1) from zb_n_add _ 1]
      refine ih _ ⟨zb_fx_set (zb_fx_set (zb_fx_set f1 rfl) rfl) rfl, mxs _ _ _ _ (Or.inr (Or.inr rfl)) (mxs _ _ _ _ (Or.inl ⟨rfl, rfl⟩) (mxs _ _ _ _ (Or.inr (Or.inl rfl)) v2)), fun q hq => ?_, ?_, fun q hq z => ?_⟩
      · rw [zb_set_ne (by omega), zb_set_ne (by omega)]
        by_cases e : q = r
        · subst e; rw [zb_set_eq]
        · rw [zb_set_ne (by omega)]; exact keep3 q (by omega)
      · rw [zb_set_ne (by omega), zb_set_eq]; simp only [zb_ct]; rw [if_pos (by omega)]
      · by_cases e : q = r
        · subst e; rw [zb_set_eq]
        · have lt : zb_ct (fun r => zb_fee N A B M O K LO LD LE (R r) (R r 5) g tons d) q ≠ zb_ct (fun r => zb_fee N A B M O K LO LD LE (R r) (R r 5) g tons d) r := fun z2 => e (zb_ct_inj z (by omega) z2)
          rw [zb_set_ne (by omega), zb_set_ne (by omega), zb_set_ne (by omega)]; exact keep5 q (by omega) z
end PRC
