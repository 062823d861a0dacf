/-! the model's least sums -/
def zb_RCM (Q : Nat) (Fr To Ow : Nat → Nat) (f : Nat → Int) (s : sv_S) : Prop := Q ≤ 60 ∧ s.1 187 32 = zb_n Q ∧ ∀ r, r < Q → s.1 206 r = zb_n (Ow r) ∧ s.1 207 r = zb_n (Fr r) ∧ s.1 208 r = zb_n (To r) ∧ s.1 227 r = zb_i (f r) ∧ Ow r < 6 ∧ Fr r < 16 ∧ To r < 16 ∧ -1 ≤ f r ∧ f r ≤ 4000000
def zb_ZS : List Nat := [187059, 228, 187060, 187061, 229]
section MCH
variable {f : Nat → Int} {Fr To Ow : Nat → Nat} {Q b a : Nat} {s : sv_S}
theorem zb_RCM_fr {L : List Nat} {u : sv_S} (h : zb_RCM Q Fr To Ow f s) (hf : zb_fr L s u) (hL : [187032, 206, 207, 208, 227].all (fun x => !L.contains x) = true) : zb_RCM Q Fr To Ow f u := by
  refine ⟨h.1, (hf.1 187 32 (zb_no_in hL (x := 187032) (by decide))).trans h.2.1, fun r hr => ?_⟩
  rw [hf.1 206 r (zb_no_in hL (x := 206) (by decide)), hf.1 207 r (zb_no_in hL (x := 207) (by decide)), hf.1 208 r (zb_no_in hL (x := 208) (by decide)), hf.1 227 r (zb_no_in hL (x := 227) (by decide))]
  exact h.2.2 r hr
/-- rows of exact sums, up to n -/
def zb_ER (f : Nat → Int) (Fr To : Nat → Nat) (Q b n : Nat) (s : sv_S) : Prop := ∀ k x, k ≤ n → x < 16 → s.1 228 (16 * k + x) = zb_i (zb_E f Fr To Q b k x)
/-- what summing up leaves -/
def zb_CHm (f : Nat → Int) (Fr To : Nat → Nat) (Q b a : Nat) (s : sv_S) (r : Int32 × sv_S) : Prop := zb_fr zb_ZS s r.2 ∧ r.1 = zb_b (decide (zb_Sx f Fr To Q b 8 a < zb_mu)) ∧ (zb_Sx f Fr To Q b 8 a < zb_mu → r.2.1 187 60 = zb_n (zb_cm f Fr To Q b a) ∧ r.2.1 187 61 = zb_i (zb_Sx f Fr To Q b 8 a) ∧ ∀ i, i < zb_cm f Fr To Q b a → r.2.1 229 i = zb_n (zb_ri f Fr To Q b (zb_cm f Fr To Q b a) a i))
theorem zb_mu_le (x : Int32) {z : Int} (h : x = zb_i z) (h1 : 0 ≤ z) (h2 : z ≤ zb_mu) : ((1000000000 : Int32) ≤ x) = (zb_mu ≤ z) ∧ (x < (1000000000 : Int32)) = (z < zb_mu) := by
  unfold zb_mu at *
  rw [h, show (1000000000 : Int32) = zb_i 1000000000 from zb_n_i 1000000000, zb_i_le (by omega) (by omega) (by omega) (by omega), zb_i_lt (by omega) (by omega) (by omega) (by omega)]
  exact ⟨rfl, rfl⟩
/-- the rates, one behind another -/
theorem zb_sum267 (hC : zb_RCM Q Fr To Ow f s) (hE : zb_ER f Fr To Q b 8 s) (hlt : zb_Sx f Fr To Q b 8 a < zb_mu) (ha : a < 16) (h60 : s.1 187 60 = zb_n (zb_cm f Fr To Q b a)) (h61 : s.1 187 61 = zb_i (zb_Sx f Fr To Q b 8 a)) (hc0 : 1 ≤ zb_cm f Fr To Q b a) : zb_W (F_Mo_sumUp_b267 ss_F (zb_n a) (zb_n (zb_cm f Fr To Q b a)) s) (fun r => zb_fr [229] s r.2 ∧ r.1 = zb_n 1 ∧ ∀ i, i < zb_cm f Fr To Q b a → r.2.1 229 i = zb_n (zb_ri f Fr To Q b (zb_cm f Fr To Q b a) a i)) := by
  have hQ := hC.1
  have hj := zb_cm_ju hlt
  have c8 := (zb_cm_ok (f := f) (Fr := Fr) (To := To) (Q := Q) (b := b) a).1
  have Emu := zb_E_mu (f := f) (Fr := Fr) (To := To) (Q := Q) (b := b)
  generalize zb_cm f Fr To Q b a = c at *
  have sql : ∀ i, i ≤ c → zb_sq f Fr To Q b c a i < 16 := by
    intro i
    induction i with
    | zero => intro _; exact ha
    | succ i ih =>
      intro hi
      have j := zb_sq_ju hj i (by omega)
      rw [show c - i = c - (i + 1) + 1 by omega] at j
      have := (zb_r1_ok j).1
      simp only [zb_sq]
      rw [show c - i = c - (i + 1) + 1 by omega]
      exact (hC.2.2 _ this).2.2.2.2.2.2.1
  have loop := zb_for (Q := fun r => zb_fr [229] s r.2 ∧ r.1 = zb_n 1 ∧ ∀ i, i < c → r.2.1 229 i = zb_n (zb_ri f Fr To Q b c a i)) (fun n k u => F_Mo_sumUp_b267 n (zb_n (zb_sq f Fr To Q b c a k)) (zb_n (c - k)) u) c (fun k u => zb_fr [229] s u ∧ ∀ i, i < k → u.1 229 i = zb_n (zb_ri f Fr To Q b c a i)) ?_ ?_ ss_F 0 s (by omega) (by unfold ss_F; omega) ⟨zb_fr_refl _ _, fun i hi => absurd hi (by omega)⟩
  · rw [Nat.sub_zero] at loop; exact loop
  · intro n u hu
    simp only [F_Mo_sumUp_b267]
    rw [Nat.sub_self]
    refine zb_Wpos (by decide) ?_
    rw [hu.1.1 187 60 rfl, h60]
    exact zb_Wneg (by rw [show (0 : Int32) = zb_n 0 from rfl, zb_n_le (by omega) (by omega)]; omega) (zb_Wsome ⟨hu.1, rfl, hu.2⟩)
  · intro n k u hk hu ih
    have jk := zb_sq_ju hj k (by omega)
    rw [show c - k = c - k - 1 + 1 by omega] at jk
    obtain ⟨j1, j2, j3, j4⟩ := zb_r1_ok jk
    have sk := sql k (by omega)
    have hCu := zb_RCM_fr hC hu.1 (by decide)
    have hEu : zb_ER f Fr To Q b 8 u := fun m x hm hx => (hu.1.1 228 _ rfl).trans (hE m x hm hx)
    simp only [F_Mo_sumUp_b267]
    refine zb_Wneg (by rw [show (0 : Int32) = zb_n 0 from rfl, zb_n_le (by omega) (by omega)]; omega) ?_
    have ri : zb_ri f Fr To Q b c a k = zb_r1 f Fr To Q b (c - k - 1 + 1) (zb_sq f Fr To Q b c a k) := by unfold zb_ri; congr 1; omega
    generalize hx : zb_sq f Fr To Q b c a k = x at *
    generalize hr1 : zb_r1 f Fr To Q b (c - k - 1 + 1) x = q at *
    refine zb_for0 (fun n r => F_Mo_sumUp_b275 (F_Mo_sumUp_b267 _) n (zb_n x) (zb_n (c - k)) (zb_n r) u) q (fun _ => True) ?_ ?_ ss_F 0 (by omega) (by unfold ss_F; omega) trivial
    · intro m _
      have c1q := (zb_ju_eq jk j1).1
      rw [j2] at c1q
      unfold zb_c1 at c1q
      rw [decide_eq_true_eq] at c1q
      obtain ⟨w1, w2, w3, w4⟩ := c1q
      obtain ⟨t1, t2, t3, t4, t5, t6, t7, t8, t9⟩ := hCu.2.2 q j1
      have e1 := hEu (c - k - 1) (To q) (by omega) t7
      have e2 := hEu (c - k - 1 + 1) x (by omega) sk
      have b1 := Emu (c - k - 1) (To q)
      have b2 := Emu (c - k - 1 + 1) x
      obtain ⟨z1, z2⟩ := zb_mu_le _ e1 b1.1 b1.2
      unfold zb_mu at b1 b2 w3
      simp only [F_Mo_sumUp_b275]
      have s1 : zb_n (c - k) - (1 : Int32) = zb_n (c - k - 1) := by rw [show (1 : Int32) = zb_n 1 from rfl, zb_n_sub (by omega)]
      have h60u : u.1 187 60 = zb_n c := (hu.1.1 187 60 rfl).trans h60
      rw [s1, h60u]
      refine zb_Wpos (by first | omega | (simp (disch := omega) only [zb_lit, zb_n_add, zb_n_mul, zb_n_ix, zb_n_lt, zb_n_le, zb_n_eq, zb_ib_n] <;> omega)) ?_
      rw [zb_n_ix (by omega), t4, t2, t3]
      refine zb_Wneg (zb_ge0' w1 (by omega)) ?_
      refine zb_Wpos (by first | omega | (simp (disch := omega) only [zb_lit, zb_n_add, zb_n_mul, zb_n_ix, zb_n_lt, zb_n_le, zb_n_eq, zb_ib_n] <;> omega)) ?_
      refine zb_Wpos (by rw [w2]) ?_
      refine zb_Wpos (by first | omega | (simp (disch := omega) only [zb_lit, zb_n_add, zb_n_mul, zb_n_ix, zb_n_lt, zb_n_le, zb_n_eq, zb_ib_n] <;> omega)) ?_
      have ix : (16 : Int32) * zb_n (c - k - 1) + zb_n (To q) = zb_n (16 * (c - k - 1) + To q) := by rw [show (16 : Int32) = zb_n 16 from rfl, zb_n_mul, zb_n_add]
      have ix2 : (16 : Int32) * zb_n (c - k) + zb_n x = zb_n (16 * (c - k - 1 + 1) + x) := by rw [show (16 : Int32) = zb_n 16 from rfl, zb_n_mul, zb_n_add]; congr 2; omega
      rw [ix, ix2]
      refine zb_Wpos (by first | omega | (simp (disch := omega) only [zb_lit, zb_n_add, zb_n_mul, zb_n_ix, zb_n_lt, zb_n_le, zb_n_eq, zb_ib_n] <;> omega)) ?_
      rw [zb_n_ix (by omega), zb_n_ix (by omega)]
      refine zb_Wneg (by rw [z1]; unfold zb_mu; omega) ?_
      refine zb_Wpos (by first | omega | (simp (disch := omega) only [zb_lit, zb_n_add, zb_n_mul, zb_n_ix, zb_n_lt, zb_n_le, zb_n_eq, zb_ib_n] <;> omega)) ?_
      refine zb_Wpos (by first | omega | (simp (disch := omega) only [zb_lit, zb_n_add, zb_n_mul, zb_n_ix, zb_n_lt, zb_n_le, zb_n_eq, zb_ib_n] <;> omega)) ?_
      refine zb_Wpos (by first | omega | (simp (disch := omega) only [zb_lit, zb_n_add, zb_n_mul, zb_n_ix, zb_n_lt, zb_n_le, zb_n_eq, zb_ib_n] <;> omega)) ?_
      refine zb_Wpos (by first | omega | (simp (disch := omega) only [zb_lit, zb_n_add, zb_n_mul, zb_n_ix, zb_n_lt, zb_n_le, zb_n_eq, zb_ib_n] <;> omega)) ?_
      rw [e1, e2, zb_i_add]
      refine zb_Wpos (by rw [w4]) ?_
      rw [zb_n_sub (by omega), show c - (c - k) = k by omega]
      refine zb_Wpos (by first | omega | (simp (disch := omega) only [zb_lit, zb_n_add, zb_n_mul, zb_n_ix, zb_n_lt, zb_n_le, zb_n_eq, zb_ib_n] <;> omega)) ?_
      refine zb_Wlet ?_
      rw [zb_n_ix (by omega)]
      refine zb_Wpos (by first | omega | (simp (disch := omega) only [zb_lit, zb_n_add, zb_n_mul, zb_n_ix, zb_n_lt, zb_n_le, zb_n_eq, zb_ib_n] <;> omega)) ?_
      refine zb_Wlet (zb_Wlet ?_)
      have e208 : (ss_setI u 229 k (zb_n q)).1 208 q = zb_n (To q) := (zb_set_ne (by omega)).trans t3
      have en : zb_n (c - k) + (-1 : Int32) = zb_n (c - (k + 1)) := by
        rw [zb_m1, zb_n_i, zb_i_add, zb_n_i]; congr 1; omega
      rw [e208, en]
      have := ih (ss_setI u 229 k (zb_n q)) ⟨zb_fr_set hu.1 rfl, fun i hi => ?_⟩
      · simp only [zb_sq] at this
        rw [hx] at this
        have e5 : zb_r1 f Fr To Q b (c - k) x = q := by rw [← hr1]; congr 1; omega
        rw [e5] at this
        exact this
      · by_cases e : i = k
        · subst e; rw [zb_set_eq, ri]
        · rw [zb_set_ne (by omega)]; exact hu.2 i (by omega)
    · intro m r hr _ ih2
      have ih2 := ih2 trivial
      have rQ : r < Q := by omega
      have c1r := (zb_ju_eq jk rQ).1
      rw [j3 r hr] at c1r
      unfold zb_c1 at c1r
      rw [decide_eq_false_iff_not] at c1r
      obtain ⟨t1, t2, t3, t4, t5, t6, t7, t8, t9⟩ := hCu.2.2 r rQ
      have e1 := hEu (c - k - 1) (To r) (by omega) t7
      have e2 := hEu (c - k - 1 + 1) x (by omega) sk
      have b1 := Emu (c - k - 1) (To r)
      have b2 := Emu (c - k - 1 + 1) x
      obtain ⟨z1, z2⟩ := zb_mu_le _ e1 b1.1 b1.2
      have b1' := b1
      unfold zb_mu at b1 b2
      have skip : zb_W (F_Mo_sumUp_b365 (F_Mo_sumUp_b267 n) (F_Mo_sumUp_b275 (F_Mo_sumUp_b267 n) m) (zb_n x) (zb_n (c - k)) (zb_n r) u) (fun r => zb_fr [229] s r.2 ∧ r.1 = zb_n 1 ∧ ∀ i, i < c → r.2.1 229 i = zb_n (zb_ri f Fr To Q b c a i)) := by
        unfold F_Mo_sumUp_b365
        refine zb_Wlet ?_
        rw [show zb_n r + (1 : Int32) = zb_n (r + 1) from zb_n_add r 1]
        exact ih2
      simp only [F_Mo_sumUp_b275]
      have s1 : zb_n (c - k) - (1 : Int32) = zb_n (c - k - 1) := by rw [show (1 : Int32) = zb_n 1 from rfl, zb_n_sub (by omega)]
      rw [s1]
      refine zb_Wpos (by first | omega | (simp (disch := omega) only [zb_lit, zb_n_add, zb_n_mul, zb_n_ix, zb_n_lt, zb_n_le, zb_n_eq, zb_ib_n] <;> omega)) ?_
      rw [zb_n_ix (by omega), t4, t2, t3]
      refine zb_Wif (fun _ => skip) (fun w1 => ?_)
      rw [show (0 : Int32) = zb_i 0 from zb_n_i 0, zb_i_lt (by omega) (by omega) (by omega) (by omega)] at w1
      refine zb_Wpos (by first | omega | (simp (disch := omega) only [zb_lit, zb_n_add, zb_n_mul, zb_n_ix, zb_n_lt, zb_n_le, zb_n_eq, zb_ib_n] <;> omega)) ?_
      refine zb_Wif (fun w2 => ?_) (fun _ => skip)
      rw [zb_n_eq (by omega) (by omega)] at w2
      refine zb_Wpos (by first | omega | (simp (disch := omega) only [zb_lit, zb_n_add, zb_n_mul, zb_n_ix, zb_n_lt, zb_n_le, zb_n_eq, zb_ib_n] <;> omega)) ?_
      have ix : (16 : Int32) * zb_n (c - k - 1) + zb_n (To r) = zb_n (16 * (c - k - 1) + To r) := by rw [show (16 : Int32) = zb_n 16 from rfl, zb_n_mul, zb_n_add]
      have ix2 : (16 : Int32) * zb_n (c - k) + zb_n x = zb_n (16 * (c - k - 1 + 1) + x) := by rw [show (16 : Int32) = zb_n 16 from rfl, zb_n_mul, zb_n_add]; congr 2; omega
      rw [ix, ix2]
      refine zb_Wpos (by first | omega | (simp (disch := omega) only [zb_lit, zb_n_add, zb_n_mul, zb_n_ix, zb_n_lt, zb_n_le, zb_n_eq, zb_ib_n] <;> omega)) ?_
      rw [zb_n_ix (by omega), zb_n_ix (by omega)]
      refine zb_Wif (fun _ => skip) (fun w3 => ?_)
      rw [z1] at w3
      refine zb_Wpos (by first | omega | (simp (disch := omega) only [zb_lit, zb_n_add, zb_n_mul, zb_n_ix, zb_n_lt, zb_n_le, zb_n_eq, zb_ib_n] <;> omega)) ?_
      refine zb_Wpos (by first | omega | (simp (disch := omega) only [zb_lit, zb_n_add, zb_n_mul, zb_n_ix, zb_n_lt, zb_n_le, zb_n_eq, zb_ib_n] <;> omega)) ?_
      refine zb_Wpos (by first | omega | (simp (disch := omega) only [zb_lit, zb_n_add, zb_n_mul, zb_n_ix, zb_n_lt, zb_n_le, zb_n_eq, zb_ib_n] <;> omega)) ?_
      refine zb_Wpos (by first | omega | (simp (disch := omega) only [zb_lit, zb_n_add, zb_n_mul, zb_n_ix, zb_n_lt, zb_n_le, zb_n_eq, zb_ib_n] <;> omega)) ?_
      rw [e1, e2, zb_i_add]
      refine zb_Wneg ?_ skip
      rw [zb_i_eq (by omega) (by omega) (by omega) (by omega)]
      exact fun w4 => c1r ⟨by omega, w2, by omega, w4⟩
def zb_CH1 (f : Nat → Int) (Fr To : Nat → Nat) (Q b a : Nat) (s : sv_S) (r : Int32 × sv_S) : Prop := zb_fr [187060, 187061, 229] s r.2 ∧ r.1 = zb_b (decide (zb_Sx f Fr To Q b 8 a < zb_mu)) ∧ (zb_Sx f Fr To Q b 8 a < zb_mu → r.2.1 187 60 = zb_n (zb_cm f Fr To Q b a) ∧ r.2.1 187 61 = zb_i (zb_Sx f Fr To Q b 8 a) ∧ ∀ i, i < zb_cm f Fr To Q b a → r.2.1 229 i = zb_n (zb_ri f Fr To Q b (zb_cm f Fr To Q b a) a i))
/-- which number of rates gives the least sum -/
theorem zb_sum185 (hC : zb_RCM Q Fr To Ow f s) (hE : zb_ER f Fr To Q b 8 s) (ha : a < 16) (hab : a ≠ b) (h60 : s.1 187 60 = zb_n 0) : zb_W (F_Mo_sumUp_b185 ss_F (zb_n a) (zb_n 1) s) (zb_CH1 f Fr To Q b a s) := by
  have Emu := zb_E_mu (f := f) (Fr := Fr) (To := To) (Q := Q) (b := b)
  have SE := zb_SE (f := f) (Fr := Fr) (To := To) (Q := Q) (b := b) 8 a
  have e0 : zb_E f Fr To Q b 0 a = zb_mu := by simp only [zb_E]; rw [if_neg hab]
  refine zb_for (fun n k u => F_Mo_sumUp_b185 n (zb_n a) (zb_n (k + 1)) u) 8 (fun k u => zb_fr [187060, 187061, 229] s u ∧ ((u.1 187 60 = zb_n 0 ∧ ∀ m, 1 ≤ m → m ≤ k → zb_E f Fr To Q b m a = zb_mu) ∨ ∃ c, 1 ≤ c ∧ c ≤ k ∧ u.1 187 60 = zb_n c ∧ u.1 187 61 = zb_i (zb_E f Fr To Q b c a) ∧ zb_E f Fr To Q b c a < zb_mu ∧ (∀ m, 1 ≤ m → m ≤ k → zb_E f Fr To Q b c a ≤ zb_E f Fr To Q b m a) ∧ ∀ m, 1 ≤ m → m < c → zb_E f Fr To Q b c a < zb_E f Fr To Q b m a)) ?_ ?_ ss_F 0 s (by omega) (by unfold ss_F; omega) ⟨zb_fr_refl _ _, Or.inl ⟨h60, fun m h1 h2 => by omega⟩⟩
  · intro n u hu
    simp only [F_Mo_sumUp_b185]
    refine zb_Wpos (by first | omega | (simp (disch := omega) only [zb_lit, zb_n_add, zb_n_mul, zb_n_ix, zb_n_lt, zb_n_le, zb_n_eq, zb_ib_n] <;> omega)) ?_
    refine zb_Wlet ?_
    rcases hu.2 with ⟨g1, g2⟩ | ⟨c, c1, c2, c3, c4, c5, c6, c7⟩
    · have no : zb_Sx f Fr To Q b 8 a = zb_mu := by
        obtain ⟨m, m1, m2⟩ := SE.2
        by_cases z : m = 0
        · rw [m2, z, e0]
        · rw [m2, g2 m (by omega) m1]
      rw [g1, show ss_F = 8191 + 1 from rfl, F_Mo_sumUp_b267]
      refine zb_Wpos (by decide) (zb_Wpos (by rw [g1]; decide) (zb_Wsome ⟨hu.1, ?_, fun z => by omega⟩))
      rw [decide_eq_false (by omega)]; rfl
    · have lt8 : zb_Sx f Fr To Q b 8 a = zb_E f Fr To Q b c a := by
        have s1 := SE.1 c c2
        obtain ⟨m, m1, m2⟩ := SE.2
        by_cases z : m = 0
        · rw [z, e0] at m2; omega
        · have := c6 m (by omega) m1; omega
      have hlt : zb_Sx f Fr To Q b 8 a < zb_mu := by omega
      obtain ⟨k1, k2, k3⟩ := zb_cm_ok (f := f) (Fr := Fr) (To := To) (Q := Q) (b := b) a
      have ju := zb_cm_ju hlt
      have cm1 : 1 ≤ zb_cm f Fr To Q b a := by
        by_cases z : zb_cm f Fr To Q b a = 0
        · rw [z] at k2
          have : zb_Sx f Fr To Q b 0 a = zb_mu := by simp only [zb_Sx]; rw [if_neg hab]
          omega
        · omega
      have ceq : zb_cm f Fr To Q b a = c := by
        have j2 := ju.2.1
        by_cases z : zb_cm f Fr To Q b a < c
        · have := c7 _ cm1 z; omega
        · by_cases z2 : c < zb_cm f Fr To Q b a
          · have a1 := k3 c z2
            have a2 := (zb_SE (f := f) (Fr := Fr) (To := To) (Q := Q) (b := b) c a).1 c (Nat.le_refl _)
            omega
          · omega
      rw [← ceq] at c3
      rw [c3]
      have hEu : zb_ER f Fr To Q b 8 u := fun m x hm hx => (hu.1.1 228 _ rfl).trans (hE m x hm hx)
      refine zb_Wmono (zb_sum267 (zb_RCM_fr hC hu.1 (by decide)) hEu hlt ha c3 (by rw [lt8]; exact c4) cm1) (fun r hr => ?_)
      refine ⟨zb_fr_trans hu.1 (zb_fr_mono hr.1 (by decide)), ?_, fun _ => ⟨?_, ?_, hr.2.2⟩⟩
      · rw [decide_eq_true hlt]; exact hr.2.1
      · rw [hr.1.1 187 60 rfl]; exact c3
      · rw [hr.1.1 187 61 rfl, lt8]; exact c4
  · intro n k u hk hu ih
    have hEu : zb_ER f Fr To Q b 8 u := fun m x hm hx => (hu.1.1 228 _ rfl).trans (hE m x hm hx)
    have e1 := hEu (k + 1) a (by omega) ha
    have b1 := Emu (k + 1) a
    obtain ⟨z1, z2⟩ := zb_mu_le _ e1 b1.1 b1.2
    have b1' := b1
    unfold zb_mu at b1
    simp only [F_Mo_sumUp_b185]
    refine zb_Wneg (by first | omega | (simp (disch := omega) only [zb_lit, zb_n_add, zb_n_mul, zb_n_ix, zb_n_lt, zb_n_le, zb_n_eq, zb_ib_n] <;> omega)) ?_
    have ix : (16 : Int32) * zb_n (k + 1) + zb_n a = zb_n (16 * (k + 1) + a) := by rw [show (16 : Int32) = zb_n 16 from rfl, zb_n_mul, zb_n_add]
    rw [ix]
    refine zb_Wpos (by first | omega | (simp (disch := omega) only [zb_lit, zb_n_add, zb_n_mul, zb_n_ix, zb_n_lt, zb_n_le, zb_n_eq, zb_ib_n] <;> omega)) ?_
    rw [zb_n_ix (by omega)]
    have b253 : ∀ v : sv_S, (zb_fr [187060, 187061, 229] s v ∧ ((v.1 187 60 = zb_n 0 ∧ ∀ m, 1 ≤ m → m ≤ k + 1 → zb_E f Fr To Q b m a = zb_mu) ∨ ∃ c, 1 ≤ c ∧ c ≤ k + 1 ∧ v.1 187 60 = zb_n c ∧ v.1 187 61 = zb_i (zb_E f Fr To Q b c a) ∧ zb_E f Fr To Q b c a < zb_mu ∧ (∀ m, 1 ≤ m → m ≤ k + 1 → zb_E f Fr To Q b c a ≤ zb_E f Fr To Q b m a) ∧ ∀ m, 1 ≤ m → m < c → zb_E f Fr To Q b c a < zb_E f Fr To Q b m a)) → zb_W (F_Mo_sumUp_b253 (F_Mo_sumUp_b185 n) (zb_n a) (zb_n (k + 1)) v) (zb_CH1 f Fr To Q b a s) := by
      intro v hv
      unfold F_Mo_sumUp_b253
      refine zb_Wlet ?_
      rw [show zb_n (k + 1) + (1 : Int32) = zb_n (k + 1 + 1) from zb_n_add (k + 1) 1]
      exact ih v hv
    by_cases w : zb_mu ≤ zb_E f Fr To Q b (k + 1) a
    · refine zb_Wpos (by rw [z1]; exact w) (b253 u ⟨hu.1, ?_⟩)
      rcases hu.2 with ⟨g1, g2⟩ | ⟨c, c1, c2, c3, c4, c5, c6, c7⟩
      · refine Or.inl ⟨g1, fun m h1 h2 => ?_⟩
        by_cases e : m = k + 1
        · subst e; omega
        · exact g2 m h1 (by omega)
      · refine Or.inr ⟨c, c1, by omega, c3, c4, c5, fun m h1 h2 => ?_, c7⟩
        by_cases e : m = k + 1
        · subst e; omega
        · exact c6 m h1 (by omega)
    · refine zb_Wneg (by rw [z1]; exact w) ?_
      have b233 : (∀ m, 1 ≤ m → m ≤ k → zb_E f Fr To Q b (k + 1) a < zb_E f Fr To Q b m a) → zb_W (F_Mo_sumUp_b233 (F_Mo_sumUp_b185 n) (zb_n a) (zb_n (k + 1)) u) (zb_CH1 f Fr To Q b a s) := by
        intro hm
        unfold F_Mo_sumUp_b233
        refine zb_Wlet ?_
        rw [ix]
        refine zb_Wpos (by first | omega | (simp (disch := omega) only [zb_lit, zb_n_add, zb_n_mul, zb_n_ix, zb_n_lt, zb_n_le, zb_n_eq, zb_ib_n] <;> omega)) ?_
        refine zb_Wlet ?_
        have e2 : (ss_setI u 187 60 (zb_n (k + 1))).1 228 (16 * (k + 1) + a) = zb_i (zb_E f Fr To Q b (k + 1) a) := (zb_set_ne (by omega)).trans e1
        rw [zb_n_ix (by omega), e2]
        refine b253 _ ⟨zb_fr_set (zb_fr_set hu.1 rfl) rfl, Or.inr ⟨k + 1, by omega, Nat.le_refl _, ?_, zb_set_eq, by omega, fun m h1 h2 => ?_, fun m h1 h2 => hm m h1 (by omega)⟩⟩
        · rw [zb_set_ne (by omega), zb_set_eq]
        · by_cases e : m = k + 1
          · subst e; exact Int.le_refl _
          · have := hm m h1 (by omega); omega
      rcases hu.2 with ⟨g1, g2⟩ | ⟨c, c1, c2, c3, c4, c5, c6, c7⟩
      · refine zb_Wpos (by rw [g1]; rfl) (b233 (fun m h1 h2 => ?_))
        rw [g2 m h1 h2]; omega
      · refine zb_Wneg (by rw [c3, show (0 : Int32) = zb_n 0 from rfl, zb_n_eq (by omega) (by omega)]; omega) ?_
        refine zb_Wpos (by first | omega | (simp (disch := omega) only [zb_lit, zb_n_add, zb_n_mul, zb_n_ix, zb_n_lt, zb_n_le, zb_n_eq, zb_ib_n] <;> omega)) ?_
        rw [c4, e1]
        have bc := Emu c a
        unfold zb_mu at bc
        by_cases w2 : zb_E f Fr To Q b c a ≤ zb_E f Fr To Q b (k + 1) a
        · refine zb_Wpos (by rw [zb_i_le (by omega) (by omega) (by omega) (by omega)]; exact w2) (b253 u ⟨hu.1, Or.inr ⟨c, c1, by omega, c3, c4, c5, fun m h1 h2 => ?_, c7⟩⟩)
          by_cases e : m = k + 1
          · subst e; exact w2
          · exact c6 m h1 (by omega)
        · refine zb_Wneg (by rw [zb_i_le (by omega) (by omega) (by omega) (by omega)]; exact w2) (b233 (fun m h1 h2 => ?_))
          have := c6 m h1 h2; omega
theorem zb_Em_skip {g : Nat → Int} {k x : Nat} (h : ¬ (0 ≤ f k ∧ Fr k = x ∧ g (To k) < zb_mu ∧ f k + g (To k) < zb_Em f Fr To g k x)) : zb_Em f Fr To g (k + 1) x = zb_Em f Fr To g k x := by simp only [zb_Em]; rw [if_neg h]
theorem zb_sumUp (hC : zb_RCM Q Fr To Ow f s) (ha : a < 16) (hb : b < 16) (hab : a ≠ b) : zb_W (F_Mo_sumUp (zb_n a) (zb_n b) s) (zb_CHm f Fr To Q b a s) := by
  have hQ := hC.1
  have Emu := zb_E_mu (f := f) (Fr := Fr) (To := To) (Q := Q) (b := b)
  unfold F_Mo_sumUp
  refine zb_Wlet ?_
  refine zb_for (fun n k u => F_Mo_sumUp_b7 n (zb_n a) (zb_n b) (zb_n k) u) 144 (fun k u => zb_fr zb_ZS s u ∧ ∀ j, j < k → u.1 228 j = zb_i (if j = b then 0 else zb_mu)) ?_ ?_ ss_F 0 _ (by omega) (by unfold ss_F; omega) ⟨zb_fr_set (zb_fr_refl _ _) rfl, fun j hj => absurd hj (by omega)⟩
  · intro n u hu
    simp only [F_Mo_sumUp_b7]
    refine zb_Wpos (by first | omega | (simp (disch := omega) only [zb_lit, zb_n_add, zb_n_mul, zb_n_ix, zb_n_lt, zb_n_le, zb_n_eq, zb_ib_n] <;> omega)) ?_
    have loop := zb_for (Q := zb_CHm f Fr To Q b a s) (fun n k u => F_Mo_sumUp_b40 n (zb_n a) (zb_n (k + 1)) u) 8 (fun k v => zb_fr zb_ZS s v ∧ zb_ER f Fr To Q b k v ∧ ∀ j, 16 * (k + 1) ≤ j → j < 144 → v.1 228 j = zb_i zb_mu) ?_ ?_ ss_F 0 u (by omega) (by unfold ss_F; omega) ⟨hu.1, fun k x hk hx => by rw [hu.2 _ (by omega), show k = 0 by omega, Nat.mul_zero, Nat.zero_add]; rfl, fun j h1 h2 => by rw [hu.2 j h2, if_neg (by omega)]⟩
    · exact loop
    · intro m v hv
      simp only [F_Mo_sumUp_b40]
      refine zb_Wpos (by first | omega | (simp (disch := omega) only [zb_lit, zb_n_add, zb_n_mul, zb_n_ix, zb_n_lt, zb_n_le, zb_n_eq, zb_ib_n] <;> omega)) ?_
      refine zb_Wlet ?_
      have hE8 : zb_ER f Fr To Q b 8 (ss_setI v 187 60 0) := fun k x hk hx => (zb_set_ne (by omega)).trans (hv.2.1 k x hk hx)
      have f1 : zb_fr zb_ZS s (ss_setI v 187 60 0) := zb_fr_set hv.1 rfl
      refine zb_Wmono (zb_sum185 (zb_RCM_fr hC f1 (by decide)) hE8 ha hab zb_set_eq) (fun r hr => ⟨zb_fr_trans f1 (zb_fr_mono hr.1 (by decide)), hr.2⟩)
    · intro m k v hk hv ih
      simp only [F_Mo_sumUp_b40]
      refine zb_Wneg (by first | omega | (simp (disch := omega) only [zb_lit, zb_n_add, zb_n_mul, zb_n_ix, zb_n_lt, zb_n_le, zb_n_eq, zb_ib_n] <;> omega)) ?_
      -- row k + 1, rate by rate
      refine zb_for (fun n r w => F_Mo_sumUp_b49 (F_Mo_sumUp_b40 _) n (zb_n a) (zb_n (k + 1)) (zb_n r) w) Q (fun r w => zb_fr zb_ZS s w ∧ zb_ER f Fr To Q b k w ∧ (∀ x, x < 16 → w.1 228 (16 * (k + 1) + x) = zb_i (zb_Em f Fr To (zb_E f Fr To Q b k) r x)) ∧ ∀ j, 16 * (k + 1 + 1) ≤ j → j < 144 → w.1 228 j = zb_i zb_mu) ?_ ?_ ss_F 0 v (by omega) (by unfold ss_F; omega) ⟨hv.1, hv.2.1, fun x hx => hv.2.2 _ (by omega) (by omega), fun j h1 h2 => hv.2.2 j (by omega) h2⟩
      · intro m2 w hw
        have hCw := zb_RCM_fr hC hw.1 (by decide)
        simp only [F_Mo_sumUp_b49]
        rw [hCw.2.1]
        refine zb_Wpos (Int32.le_refl _) (zb_Wlet ?_)
        rw [show zb_n (k + 1) + (1 : Int32) = zb_n (k + 1 + 1) from zb_n_add (k + 1) 1]
        refine ih w ⟨hw.1, fun j x hj hx => ?_, hw.2.2.2⟩
        by_cases e : j = k + 1
        · subst e; exact hw.2.2.1 x hx
        · exact hw.2.1 j x (by omega) hx
      · intro m2 r w hr hw ih2
        obtain ⟨w1, w2, w3, w4⟩ := hw
        have hCw := zb_RCM_fr hC w1 (by decide)
        obtain ⟨t1, t2, t3, t4, t5, t6, t7, t8, t9⟩ := hCw.2.2 r hr
        have e1 := w2 k (To r) (Nat.le_refl _) t7
        have e2 := w3 (Fr r) t6
        have b1 := Emu k (To r)
        have b2 := zb_Em_le (f := f) (Fr := Fr) (To := To) (g := zb_E f Fr To Q b k) r (Fr r)
        have b3 : 0 ≤ zb_Em f Fr To (zb_E f Fr To Q b k) r (Fr r) := by
          rcases zb_Em_ex (f := f) (Fr := Fr) (To := To) (g := zb_E f Fr To Q b k) r (Fr r) with h | ⟨q, q1, q2, q3, q4, q5⟩
          · rw [h]; unfold zb_mu; omega
          · have := (Emu k (To q)).1; omega
        obtain ⟨z1, z2⟩ := zb_mu_le _ e1 b1.1 b1.2
        have skip : (∀ x, x < 16 → ¬ (0 ≤ f r ∧ Fr r = x ∧ zb_E f Fr To Q b k (To r) < zb_mu ∧ f r + zb_E f Fr To Q b k (To r) < zb_Em f Fr To (zb_E f Fr To Q b k) r x)) → zb_W (F_Mo_sumUp_b166 (F_Mo_sumUp_b40 m) (F_Mo_sumUp_b49 (F_Mo_sumUp_b40 m) m2) (zb_n a) (zb_n (k + 1)) (zb_n r) w) (zb_CHm f Fr To Q b a s) := by
          intro z
          unfold F_Mo_sumUp_b166
          refine zb_Wlet ?_
          rw [show zb_n r + (1 : Int32) = zb_n (r + 1) from zb_n_add r 1]
          refine ih2 w ⟨w1, w2, fun x hx => ?_, w4⟩
          rw [zb_Em_skip (z x hx)]; exact w3 x hx
        simp only [F_Mo_sumUp_b49]
        rw [hCw.2.1]
        refine zb_Wneg (by rw [zb_n_le (by omega) (by omega)]; omega) ?_
        refine zb_Wpos (by first | omega | (simp (disch := omega) only [zb_lit, zb_n_add, zb_n_mul, zb_n_ix, zb_n_lt, zb_n_le, zb_n_eq, zb_ib_n] <;> omega)) ?_
        rw [zb_n_ix (by omega), t4, t2, t3]
        refine zb_Wif (fun q => skip (fun x _ z => ?_)) (fun q => ?_)
        · rw [show (0 : Int32) = zb_i 0 from zb_n_i 0, zb_i_lt (by omega) (by omega) (by omega) (by omega)] at q; omega
        rw [show (0 : Int32) = zb_i 0 from zb_n_i 0, zb_i_lt (by omega) (by omega) (by omega) (by omega)] at q
        have s1 : zb_n (k + 1) - (1 : Int32) = zb_n k := zb_sub1 k
        have ix : (16 : Int32) * zb_n k + zb_n (To r) = zb_n (16 * k + To r) := by rw [show (16 : Int32) = zb_n 16 from rfl, zb_n_mul, zb_n_add]
        have ix2 : (16 : Int32) * zb_n (k + 1) + zb_n (Fr r) = zb_n (16 * (k + 1) + Fr r) := by rw [show (16 : Int32) = zb_n 16 from rfl, zb_n_mul, zb_n_add]
        rw [s1, ix, ix2]
        refine zb_Wpos (by first | omega | (simp (disch := omega) only [zb_lit, zb_n_add, zb_n_mul, zb_n_ix, zb_n_lt, zb_n_le, zb_n_eq, zb_ib_n] <;> omega)) ?_
        refine zb_Wpos (by first | omega | (simp (disch := omega) only [zb_lit, zb_n_add, zb_n_mul, zb_n_ix, zb_n_lt, zb_n_le, zb_n_eq, zb_ib_n] <;> omega)) ?_
        rw [zb_n_ix (by omega), zb_n_ix (by omega)]
        by_cases q2 : zb_E f Fr To Q b k (To r) < zb_mu
        · refine zb_Wpos (by rw [z2]; exact q2) ?_
          refine zb_Wpos (by first | omega | (simp (disch := omega) only [zb_lit, zb_n_add, zb_n_mul, zb_n_ix, zb_n_lt, zb_n_le, zb_n_eq, zb_ib_n] <;> omega)) ?_
          refine zb_Wpos (by first | omega | (simp (disch := omega) only [zb_lit, zb_n_add, zb_n_mul, zb_n_ix, zb_n_lt, zb_n_le, zb_n_eq, zb_ib_n] <;> omega)) ?_
          refine zb_Wpos (by first | omega | (simp (disch := omega) only [zb_lit, zb_n_add, zb_n_mul, zb_n_ix, zb_n_lt, zb_n_le, zb_n_eq, zb_ib_n] <;> omega)) ?_
          refine zb_Wlet ?_
          refine zb_Wpos (by first | omega | (simp (disch := omega) only [zb_lit, zb_n_add, zb_n_mul, zb_n_ix, zb_n_lt, zb_n_le, zb_n_eq, zb_ib_n] <;> omega)) ?_
          refine zb_Wpos (by first | omega | (simp (disch := omega) only [zb_lit, zb_n_add, zb_n_mul, zb_n_ix, zb_n_lt, zb_n_le, zb_n_eq, zb_ib_n] <;> omega)) ?_
          rw [e1, e2, zb_i_add]
          unfold zb_mu at q2 b2
          by_cases q3 : zb_Em f Fr To (zb_E f Fr To Q b k) r (Fr r) ≤ f r + zb_E f Fr To Q b k (To r)
          · refine zb_Wpos (by rw [zb_i_le (by omega) (by omega) (by omega) (by omega)]; exact q3) (skip (fun x _ z => ?_))
            rw [← z.2.1] at z; omega
          · refine zb_Wneg (by rw [zb_i_le (by omega) (by omega) (by omega) (by omega)]; exact q3) ?_
            refine zb_Wpos (by first | omega | (simp (disch := omega) only [zb_lit, zb_n_add, zb_n_mul, zb_n_ix, zb_n_lt, zb_n_le, zb_n_eq, zb_ib_n] <;> omega)) ?_
            refine zb_Wpos (by first | omega | (simp (disch := omega) only [zb_lit, zb_n_add, zb_n_mul, zb_n_ix, zb_n_lt, zb_n_le, zb_n_eq, zb_ib_n] <;> omega)) ?_
            refine zb_Wlet ?_
            unfold F_Mo_sumUp_b166
            refine zb_Wlet ?_
            rw [show zb_n r + (1 : Int32) = zb_n (r + 1) from zb_n_add r 1]
            refine ih2 _ ⟨zb_fr_set w1 rfl, fun j x hj hx => ?_, fun x hx => ?_, fun j h1 h2 => ?_⟩
            · rw [zb_set_ne (by omega)]; exact w2 j x hj hx
            · simp only [zb_Em]
              by_cases e : Fr r = x
              · subst e
                rw [zb_set_eq, if_pos ⟨by omega, rfl, by unfold zb_mu; omega, by omega⟩]
              · rw [if_neg (fun z => e z.2.1), zb_set_ne (by omega)]; exact w3 x hx
            · rw [zb_set_ne (by omega)]; exact w4 j h1 h2
        · refine zb_Wneg (by rw [z2]; exact q2) (skip (fun x _ z => q2 z.2.2.1))
  · intro n k u hk hu ih
    simp only [F_Mo_sumUp_b7, F_Mo_sumUp_b31]
    refine zb_Wneg (by first | omega | (simp (disch := omega) only [zb_lit, zb_n_add, zb_n_mul, zb_n_ix, zb_n_lt, zb_n_le, zb_n_eq, zb_ib_n] <;> omega)) ?_
    have st : ∀ v : Int32, v = zb_i (if k = b then 0 else zb_mu) → zb_W (if sv_ib (zb_n k) 144 = true then ss_let (ss_setI u 228 (zb_n k).toNatClampNeg v) fun s15 => ss_let (zb_n k + (1 : Int32)) fun v16 => F_Mo_sumUp_b7 n (zb_n a) (zb_n b) v16 s15 else none) (zb_CHm f Fr To Q b a s) := by
      intro v hv
      refine zb_Wpos (by first | omega | (simp (disch := omega) only [zb_lit, zb_n_add, zb_n_mul, zb_n_ix, zb_n_lt, zb_n_le, zb_n_eq, zb_ib_n] <;> omega)) ?_
      refine zb_Wlet (zb_Wlet ?_)
      simp (disch := omega) only [zb_lit, zb_n_add, zb_n_mul, zb_n_ix, zb_n_lt, zb_n_le, zb_n_eq, zb_ib_n]
      refine ih _ ⟨zb_fr_set hu.1 rfl, fun j hj => ?_⟩
      by_cases e : j = k
      · subst e; rw [zb_set_eq, hv]
      · rw [zb_set_ne (by omega)]; exact hu.2 j (by omega)
    by_cases e : k = b
    · refine zb_Wpos (by rw [e]) (st 0 ?_)
      rw [if_pos e]; exact zb_n_i 0
    · refine zb_Wneg (by rw [zb_n_eq (by omega) (by omega)]; exact e) (st _ ?_)
      rw [if_neg e]; exact zb_n_i 1000000000
end MCH
