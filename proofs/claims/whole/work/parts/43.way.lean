/-! ways -/
def sb_ls (f : Nat → Bool) : Nat → Nat → Nat
  | 0, k => k
  | n + 1, k => if f k = true then k else sb_ls f n (k + 1)
theorem sb_ls_ok {f : Nat → Bool} : ∀ (n k j : Nat), k ≤ j → j < k + n → f j = true → f (sb_ls f n k) = true ∧ k ≤ sb_ls f n k ∧ sb_ls f n k ≤ j ∧ ∀ i, k ≤ i → i < sb_ls f n k → f i = false := by
  intro n
  induction n with
  | zero => intro k j h1 h2; omega
  | succ n ih =>
    intro k j h1 h2 h3
    simp only [sb_ls]
    by_cases q : f k = true
    · rw [if_pos q]; exact ⟨q, Nat.le_refl _, h1, fun i _ _ => by omega⟩
    · rw [if_neg q]
      have : k ≠ j := fun e => q (e ▸ h3)
      obtain ⟨i1, i2, i3, i4⟩ := ih (k + 1) j (by omega) (by omega) h3
      refine ⟨i1, by omega, i3, fun i a b => ?_⟩
      by_cases e : i = k
      · subst e; simpa using q
      · exact i4 i (by omega) b
/-- the least number that keeps f is that one -/
theorem sb_ls_is {f : Nat → Bool} {n j : Nat} (h1 : j < n) (h2 : f j = true) (h3 : ∀ i, i < j → f i = false) : sb_ls f n 0 = j := by
  obtain ⟨i1, _, i3, _⟩ := sb_ls_ok n 0 j (by omega) (by omega) h2
  by_cases e : sb_ls f n 0 = j
  · exact e
  · rw [h3 _ (by omega)] at i1; cases i1
def sb_st (g d : Nat → Nat → Int) (b x y : Nat) : Bool := decide (y ≠ x ∧ g x y < 100000 ∧ g x y + d y b = d x b)
def sb_nx (g d : Nat → Nat → Int) (b x : Nat) : Nat := sb_ls (sb_st g d b x) 16 0
def sb_wp (g d : Nat → Nat → Int) (b x : Nat) : Nat → Nat
  | 0 => x
  | i + 1 => if sb_wp g d b x i = b then b else sb_nx g d b (sb_wp g d b x i)
def sb_wm (g d : Nat → Nat → Int) (b x : Nat) : Nat := sb_ls (fun i => decide (sb_wp g d b x i = b)) 16 0
section WAY
variable {N : Nat} {A B : Nat → Nat} {M : Nat → Int} {O : Nat → Nat} {s : sv_S}
/-- direct miles, fewest miles, by lines of an owner or of any -/
def sb_di0 (N : Nat) (A B : Nat → Nat) (M : Nat → Int) (O : Nat → Nat) (o : Int) : Nat → Nat → Int := sb_di A B M (sb_ow O o) 100000 N
def sb_D (N : Nat) (A B : Nat → Nat) (M : Nat → Int) (O : Nat → Nat) (o : Int) : Nat → Nat → Int := sb_fw (sb_di0 N A B M O o) 16
theorem sb_D_gr (h : sb_ln N A B M) (o : Int) : sb_gr N A B M (fun l => sb_ow O o l = true) 100000 (sb_D N A B M O o) := sb_fw_gr (by omega) h
theorem sb_ow_any : sb_ow O (-1) = fun _ => true := by funext l; unfold sb_ow; simp
theorem sb_st_ex (h : sb_ln N A B M) {x b : Nat} (hx : x < 16) (hb : b < 16) (hxb : x ≠ b) (hlt : sb_D N A B M O (-1) x b < 100000) : ∃ y, y < 16 ∧ sb_st (sb_di0 N A B M O (-1)) (sb_D N A B M O (-1)) b x y = true := by
  have hg := sb_D_gr (O := O) h (-1)
  obtain ⟨l, hl, _, q⟩ := sb_gr_tight h hg hx hb hxb hlt
  have hL := h l hl
  obtain ⟨_, _, _, i4, _⟩ := sb_di_ok (p := sb_ow O (-1)) (F := 100000) (by omega) N h
  have i4' := i4 l hl (by rw [sb_ow_any])
  have low : ∀ y, y < 16 → sb_D N A B M O (-1) x b ≤ sb_di0 N A B M O (-1) x y + sb_D N A B M O (-1) y b := by
    intro y hy
    have t := hg.1.2.2.2 x y b hx hy hb
    have u := ((sb_fw_ok (F := 100000) (d := sb_di0 N A B M O (-1)) (fun a _ => (sb_di_ok (p := sb_ow O (-1)) (F := 100000) (by omega) N h).1 a) (fun a b _ _ => (sb_di_ok (p := sb_ow O (-1)) (F := 100000) (by omega) N h).2.1 a b) 16 (by omega)).2.1 x y hx hy).2
    have : sb_D N A B M O (-1) x y = sb_fw (sb_di0 N A B M O (-1)) 16 x y := rfl
    omega
  rcases q with ⟨q1, q2⟩ | ⟨q1, q2⟩
  · refine ⟨B l, hL.2.1, ?_⟩
    have t := low (B l) hL.2.1
    rw [q1] at i4'
    have i5 : sb_di0 N A B M O (-1) x (B l) ≤ M l := i4'
    unfold sb_st
    rw [decide_eq_true_eq]
    exact ⟨fun e => hL.2.2.1 (q1.trans e.symm), by omega, by omega⟩
  · refine ⟨A l, hL.1, ?_⟩
    have t := low (A l) hL.1
    rw [q1] at i4'
    have i5 : sb_di0 N A B M O (-1) x (A l) ≤ M l := by unfold sb_di0; rw [sb_di_comm]; exact i4'
    unfold sb_st
    rw [decide_eq_true_eq]
    exact ⟨fun e => hL.2.2.1 (e.trans q1.symm), by omega, by omega⟩
theorem sb_nx_ok (h : sb_ln N A B M) {x b : Nat} (hx : x < 16) (hb : b < 16) (hxb : x ≠ b) (hlt : sb_D N A B M O (-1) x b < 100000) :
    sb_nx (sb_di0 N A B M O (-1)) (sb_D N A B M O (-1)) b x < 16 ∧ sb_st (sb_di0 N A B M O (-1)) (sb_D N A B M O (-1)) b x (sb_nx (sb_di0 N A B M O (-1)) (sb_D N A B M O (-1)) b x) = true ∧ sb_D N A B M O (-1) (sb_nx (sb_di0 N A B M O (-1)) (sb_D N A B M O (-1)) b x) b < sb_D N A B M O (-1) x b ∧ ∀ i, i < sb_nx (sb_di0 N A B M O (-1)) (sb_D N A B M O (-1)) b x → sb_st (sb_di0 N A B M O (-1)) (sb_D N A B M O (-1)) b x i = false := by
  obtain ⟨y, hy, q⟩ := sb_st_ex (O := O) h hx hb hxb hlt
  obtain ⟨i1, _, i3, i4⟩ := sb_ls_ok 16 0 y (by omega) (by omega) q
  refine ⟨by unfold sb_nx; omega, i1, ?_, fun i hi => i4 i (by omega) hi⟩
  have i1' := i1
  unfold sb_st at i1'
  rw [decide_eq_true_eq] at i1'
  have := (sb_di_ok (p := sb_ow O (-1)) (F := 100000) (by omega) N h).2.2.1 x _ (Ne.symm i1'.1)
  have e : sb_nx (sb_di0 N A B M O (-1)) (sb_D N A B M O (-1)) b x = sb_ls (sb_st (sb_di0 N A B M O (-1)) (sb_D N A B M O (-1)) b x) 16 0 := rfl
  rw [e]
  have i6 := i1'.2.2
  unfold sb_st at i6
  unfold sb_di0 at i6 ⊢
  unfold sb_st at this
  unfold sb_di0 at this
  unfold sb_st
  omega
/-- stations on a way: below the first that is b all are others, and each is nearer -/
theorem sb_wp_ok (h : sb_ln N A B M) {x b : Nat} (hx : x < 16) (hb : b < 16) (hlt : sb_D N A B M O (-1) x b < 100000) (i : Nat) :
    sb_wp (sb_di0 N A B M O (-1)) (sb_D N A B M O (-1)) b x i < 16 ∧ sb_D N A B M O (-1) (sb_wp (sb_di0 N A B M O (-1)) (sb_D N A B M O (-1)) b x i) b < 100000 ∧ ((∀ j, j < i → sb_wp (sb_di0 N A B M O (-1)) (sb_D N A B M O (-1)) b x j ≠ b) → i + sb_nr (sb_D N A B M O (-1)) b (sb_D N A B M O (-1) (sb_wp (sb_di0 N A B M O (-1)) (sb_D N A B M O (-1)) b x i) b) 16 ≤ 15) := by
  induction i with
  | zero => exact ⟨hx, hlt, fun _ => by have := sb_nr_15 (d := sb_D N A B M O (-1)) (a := x) (b := b) hx; simp only [sb_wp]; omega⟩
  | succ i ih =>
    obtain ⟨j1, j2, j3⟩ := ih
    have hz : sb_D N A B M O (-1) b b = 0 := (sb_D_gr (O := O) h (-1)).1.1 b hb
    by_cases e : sb_wp (sb_di0 N A B M O (-1)) (sb_D N A B M O (-1)) b x i = b
    · simp only [sb_wp, if_pos e]
      exact ⟨hb, by omega, fun q => absurd e (q i (by omega))⟩
    · simp only [sb_wp, if_neg e]
      obtain ⟨k1, k2, k3, k4⟩ := sb_nx_ok (O := O) h j1 hb e j2
      refine ⟨k1, by omega, fun q => ?_⟩
      have := j3 (fun j hj => q j (by omega))
      have := sb_nr_lt (d := sb_D N A B M O (-1)) (b := b) (Int.le_of_lt k3) (Int.lt_irrefl _) k3 16 k1
      omega
theorem sb_wm_ok (h : sb_ln N A B M) {x b : Nat} (hx : x < 16) (hb : b < 16) (hlt : sb_D N A B M O (-1) x b < 100000) :
    sb_wm (sb_di0 N A B M O (-1)) (sb_D N A B M O (-1)) b x ≤ 15 ∧ sb_wp (sb_di0 N A B M O (-1)) (sb_D N A B M O (-1)) b x (sb_wm (sb_di0 N A B M O (-1)) (sb_D N A B M O (-1)) b x) = b ∧ ∀ i, i < sb_wm (sb_di0 N A B M O (-1)) (sb_D N A B M O (-1)) b x → sb_wp (sb_di0 N A B M O (-1)) (sb_D N A B M O (-1)) b x i ≠ b := by
  have ex : ∃ i, i ≤ 15 ∧ sb_wp (sb_di0 N A B M O (-1)) (sb_D N A B M O (-1)) b x i = b := by
    refine Classical.byContradiction fun no => ?_
    have no' : ∀ i, i ≤ 15 → sb_wp (sb_di0 N A B M O (-1)) (sb_D N A B M O (-1)) b x i ≠ b := fun i hi e => no ⟨i, hi, e⟩
    have := (sb_wp_ok (O := O) h hx hb hlt 16).2.2 (fun j hj => no' j (by omega))
    omega
  obtain ⟨i, hi, e⟩ := ex
  obtain ⟨i1, _, i3, i4⟩ := sb_ls_ok (f := fun i => decide (sb_wp (sb_di0 N A B M O (-1)) (sb_D N A B M O (-1)) b x i = b)) 16 0 i (by omega) (by omega) (by simpa using e)
  exact ⟨by unfold sb_wm; omega, of_decide_eq_true i1, fun j hj => of_decide_eq_false (i4 j (by omega) hj)⟩
theorem sb_bs_self (h : sb_ln N A B M) (a : Nat) : ∀ k, k ≤ N → sb_bs A B M k a a = -1 := by
  intro k
  induction k with
  | zero => intro _; rfl
  | succ k ih =>
    intro hk
    have hL := h k (by omega)
    rw [sb_bs_s, if_neg, ih (by omega)]
    intro t
    rcases t.1 with w | w <;> exact hL.2.2.1 (w.1.trans w.2.symm)
theorem sb_ln_le {k : Nat} (h : sb_ln N A B M) (hk : k ≤ N) : sb_ln k A B M := fun l hl => h l (by omega)
theorem sb_bs_rg (h : sb_ln N A B M) (a b : Nat) {k : Nat} (hk : k ≤ N) : -1 ≤ sb_bs A B M k a b ∧ sb_bs A B M k a b < k := by
  by_cases e : a = b
  · subst e; rw [sb_bs_self h a k hk]; omega
  · exact (sb_bs_ok (F := 100000) (by omega) k (sb_ln_le h hk) a b e).1
/-- the model's line for two stations -/
theorem sb_lineFor (hR : sb_RM N A B M O s) {a b : Nat} (ha : a < 16) (hb : b < 16) : sb_W (F_Mo_lineFor (sb_n a) (sb_n b) s) (fun r => r = sb_i (sb_bs A B M N a b)) := by
  have hln := sb_RM_ln hR
  have hN := hR.1
  unfold F_Mo_lineFor
  refine sb_for0 (fun n l => F_Mo_lineFor_b5 s n (sb_n a) (sb_n b) (sb_i (sb_bs A B M l a b)) (sb_n l)) N (fun _ => True) ?_ ?_ ss_F 0 (by omega) (by unfold ss_F; omega) trivial
  · intro n _
    simp only [F_Mo_lineFor_b5]
    rw [if_pos (by rw [hR.2.1]; exact Int32.le_refl _)]
    exact sb_Wsome rfl
  · intro n l hl _ ih
    have ih := ih trivial
    obtain ⟨q1, q2, q3, q4, q5, q6, q7, q8, q9, q10⟩ := hR.2.2 l hl
    have g := sb_bs_rg hln a b (k := l) (by omega)
    have no : ¬ (((A l = a ∧ B l = b) ∨ (A l = b ∧ B l = a)) ∧ (sb_bs A B M l a b < 0 ∨ M l < M (sb_bs A B M l a b).toNat)) → sb_W (F_Mo_lineFor_b81 s (F_Mo_lineFor_b5 s n) (sb_n a) (sb_n b) (sb_i (sb_bs A B M l a b)) (sb_n l)) (fun r => r = sb_i (sb_bs A B M N a b)) := by
      intro q
      unfold F_Mo_lineFor_b81
      refine sb_Wlet ?_
      simp (disch := omega) only [sb_lit, sb_n_add, sb_n_mul, sb_n_ix, sb_n_lt, sb_n_le, sb_n_eq, sb_ib_n]
      rw [sb_bs_s, if_neg q] at ih
      exact ih
    have yes : (((A l = a ∧ B l = b) ∨ (A l = b ∧ B l = a)) ∧ (sb_bs A B M l a b < 0 ∨ M l < M (sb_bs A B M l a b).toNat)) → sb_W (F_Mo_lineFor_b81 s (F_Mo_lineFor_b5 s n) (sb_n a) (sb_n b) (sb_n l) (sb_n l)) (fun r => r = sb_i (sb_bs A B M N a b)) := by
      intro q
      unfold F_Mo_lineFor_b81
      refine sb_Wlet ?_
      simp (disch := omega) only [sb_lit, sb_n_add, sb_n_mul, sb_n_ix, sb_n_lt, sb_n_le, sb_n_eq, sb_ib_n]
      rw [sb_bs_s, if_pos q, ← sb_n_i] at ih
      exact ih
    have two : ((A l = a ∧ B l = b) ∨ (A l = b ∧ B l = a)) → sb_W (F_Mo_lineFor_b58 s (F_Mo_lineFor_b5 s n) (sb_n a) (sb_n b) (sb_i (sb_bs A B M l a b)) (sb_n l)) (fun r => r = sb_i (sb_bs A B M N a b)) := by
      intro q
      unfold F_Mo_lineFor_b58 F_Mo_lineFor_b78
      have z : (sb_i (sb_bs A B M l a b) < sb_n 0) = (sb_bs A B M l a b < 0) := by rw [sb_n_i]; exact sb_i_lt (by omega) (by omega) (by omega) (by omega)
      simp only [sb_lit, z]
      refine sb_Wif (fun t => yes ⟨q, Or.inl t⟩) (fun t => ?_)
      have e : sb_i (sb_bs A B M l a b) = sb_n (sb_bs A B M l a b).toNat := by rw [sb_n_i, Int.toNat_of_nonneg (by omega)]
      have hM := hln (sb_bs A B M l a b).toNat (by omega)
      have e2 : s.1 191 (sb_bs A B M l a b).toNat = sb_i (M (sb_bs A B M l a b).toNat) := (hR.2.2 _ (by omega)).2.2.2.1
      rw [e]
      refine sb_Wpos (by first | omega | (simp (disch := omega) only [sb_lit, sb_n_add, sb_n_mul, sb_n_ix, sb_n_lt, sb_n_le, sb_n_eq, sb_ib_n] <;> omega)) ?_
      refine sb_Wpos (by first | omega | (simp (disch := omega) only [sb_lit, sb_n_add, sb_n_mul, sb_n_ix, sb_n_lt, sb_n_le, sb_n_eq, sb_ib_n] <;> omega)) ?_
      simp (disch := omega) only [sb_lit, sb_n_add, sb_n_mul, sb_n_ix, sb_n_lt, sb_n_le, sb_n_eq, sb_ib_n, e2, q4, sb_i_le]
      rw [← e]
      refine sb_Wif (fun u => no (fun v => ?_)) (fun u => yes ⟨q, Or.inr (by omega)⟩)
      rcases v.2 with w | w <;> omega
    have b36 : ¬ (A l = a ∧ B l = b) → sb_W (F_Mo_lineFor_b36 s (F_Mo_lineFor_b5 s n) (sb_n a) (sb_n b) (sb_i (sb_bs A B M l a b)) (sb_n l)) (fun r => r = sb_i (sb_bs A B M N a b)) := by
      intro q
      unfold F_Mo_lineFor_b36
      refine sb_Wpos (by first | omega | (simp (disch := omega) only [sb_lit, sb_n_add, sb_n_mul, sb_n_ix, sb_n_lt, sb_n_le, sb_n_eq, sb_ib_n] <;> omega)) ?_
      simp (disch := omega) only [sb_lit, sb_n_add, sb_n_mul, sb_n_ix, sb_n_lt, sb_n_le, sb_n_eq, sb_ib_n, q2, q3]
      refine sb_Wif (fun t => ?_) (fun t => no (fun v => by rcases v.1 with w | w; exact q w; exact t w.1))
      refine sb_Wpos (by first | omega | (simp (disch := omega) only [sb_lit, sb_n_add, sb_n_mul, sb_n_ix, sb_n_lt, sb_n_le, sb_n_eq, sb_ib_n] <;> omega)) ?_
      refine sb_Wif (fun u => two (Or.inr ⟨t, u⟩)) (fun u => no (fun v => by rcases v.1 with w | w; exact q w; exact u w.2))
    simp only [F_Mo_lineFor_b5]
    simp (disch := omega) only [sb_lit, sb_n_add, sb_n_mul, sb_n_ix, sb_n_lt, sb_n_le, sb_n_eq, sb_ib_n, hR.2.1, q2, q3]
    rw [if_neg (by omega)]
    refine sb_Wpos (by first | omega | (simp (disch := omega) only [sb_lit, sb_n_add, sb_n_mul, sb_n_ix, sb_n_lt, sb_n_le, sb_n_eq, sb_ib_n] <;> omega)) ?_
    refine sb_Wif (fun t => ?_) (fun t => b36 (fun v => t v.1))
    refine sb_Wpos (by first | omega | (simp (disch := omega) only [sb_lit, sb_n_add, sb_n_mul, sb_n_ix, sb_n_lt, sb_n_le, sb_n_eq, sb_ib_n] <;> omega)) ?_
    refine sb_Wif (fun u => two (Or.inl ⟨t, u⟩)) (fun u => b36 (fun v => u v.2))
/-- line i of a way -/
def sb_lw (N : Nat) (A B : Nat → Nat) (M : Nat → Int) (O : Nat → Nat) (a b i : Nat) : Int := sb_bs A B M N (sb_wp (sb_di0 N A B M O (-1)) (sb_D N A B M O (-1)) b a i) (sb_wp (sb_di0 N A B M O (-1)) (sb_D N A B M O (-1)) b a (i + 1))
theorem sb_fw39 {Q : Int32 × sv_S → Prop} {kc31 : Int32 → Int32 → sv_S → Option (Int32 × sv_S)} {x b i : Nat} (hR : sb_RM N A B M O s) (hx : x < 16) (hb : b < 16) (hxb : x ≠ b) (hlt : sb_D N A B M O (-1) x b < 100000) (h3 : sb_gd s 193 (sb_di0 N A B M O (-1))) (h2 : sb_gd s 192 (sb_D N A B M O (-1))) (h9 : s.1 187 9 = sb_n i) (hi : i < 16)
    (k : sb_W (kc31 (sb_n b) (sb_n (sb_nx (sb_di0 N A B M O (-1)) (sb_D N A B M O (-1)) b x)) (ss_setI (ss_setI s 194 i (sb_i (sb_bs A B M N x (sb_nx (sb_di0 N A B M O (-1)) (sb_D N A B M O (-1)) b x)))) 187 9 (sb_n (i + 1)))) Q) :
    ∀ (n y : Nat), y ≤ sb_nx (sb_di0 N A B M O (-1)) (sb_D N A B M O (-1)) b x → sb_nx (sb_di0 N A B M O (-1)) (sb_D N A B M O (-1)) b x < n + y → True → sb_W (F_Mo_findWay_b39 kc31 n (sb_n b) (sb_n x) (sb_n y) s) Q := by
  have hln := sb_RM_ln hR
  obtain ⟨n1, n2, n3, n4⟩ := sb_nx_ok (O := O) hln hx hb hxb hlt
  have gr := (sb_D_gr (O := O) hln (-1)).1.2.1
  have dr : ∀ x y, 0 ≤ sb_di0 N A B M O (-1) x y ∧ sb_di0 N A B M O (-1) x y ≤ 100000 := (sb_di_ok (p := sb_ow O (-1)) (F := 100000) (by omega) N hln).2.1
  refine sb_for0 (fun n y => F_Mo_findWay_b39 kc31 n (sb_n b) (sb_n x) (sb_n y) s) _ (fun _ => True) ?_ ?_
  · intro n _
    unfold sb_st at n2
    rw [decide_eq_true_eq] at n2
    have e1 := h3 x _ hx n1
    have e2 := h2 _ b n1 hb
    have e3 := h2 x b hx hb
    have g1 := gr x b hx hb
    have g2 := gr _ b n1 hb
    have g3 := dr x (sb_nx (sb_di0 N A B M O (-1)) (sb_D N A B M O (-1)) b x)
    simp only [F_Mo_findWay_b39]
    generalize sb_nx (sb_di0 N A B M O (-1)) (sb_D N A B M O (-1)) b x = y at *
    refine sb_Wneg (by first | omega | (simp (disch := omega) only [sb_lit, sb_n_add, sb_n_mul, sb_n_ix, sb_n_lt, sb_n_le, sb_n_eq, sb_ib_n] <;> omega)) ?_
    refine sb_Wpos (by first | omega | (simp (disch := omega) only [sb_lit, sb_n_add, sb_n_mul, sb_n_ix, sb_n_lt, sb_n_le, sb_n_eq, sb_ib_n] <;> omega)) ?_
    refine sb_Wneg ?_ ?_
    · simp (disch := omega) only [sb_lit, sb_n_add, sb_n_mul, sb_n_ix, sb_n_lt, sb_n_le, sb_n_eq, sb_ib_n, e1]
      rw [sb_n_i, sb_i_le (by omega) (by omega) (by omega) (by omega)]; omega
    refine sb_Wpos (by first | omega | (simp (disch := omega) only [sb_lit, sb_n_add, sb_n_mul, sb_n_ix, sb_n_lt, sb_n_le, sb_n_eq, sb_ib_n] <;> omega)) ?_
    refine sb_Wpos (by first | omega | (simp (disch := omega) only [sb_lit, sb_n_add, sb_n_mul, sb_n_ix, sb_n_lt, sb_n_le, sb_n_eq, sb_ib_n] <;> omega)) ?_
    refine sb_Wpos (by first | omega | (simp (disch := omega) only [sb_lit, sb_n_add, sb_n_mul, sb_n_ix, sb_n_lt, sb_n_le, sb_n_eq, sb_ib_n] <;> omega)) ?_
    refine sb_Wpos ?_ ?_
    · simp (disch := omega) only [sb_lit, sb_n_add, sb_n_mul, sb_n_ix, sb_n_lt, sb_n_le, sb_n_eq, sb_ib_n, e1, e2, e3, sb_i_add]
      rw [n2.2.2]
    refine sb_Wbind2 (sb_lineFor hR hx n1) (fun r hr => ?_)
    subst hr
    rw [h9]
    refine sb_Wpos (by first | omega | (simp (disch := omega) only [sb_lit, sb_n_add, sb_n_mul, sb_n_ix, sb_n_lt, sb_n_le, sb_n_eq, sb_ib_n] <;> omega)) ?_
    refine sb_Wlet ?_
    simp (disch := omega) only [sb_lit, sb_n_add, sb_n_mul, sb_n_ix, sb_n_lt, sb_n_le, sb_n_eq, sb_ib_n]
    have e9 : (ss_setI s 194 i (sb_i (sb_bs A B M N x y))).1 187 9 = sb_n i := (sb_set_ne (by omega)).trans h9
    rw [e9]
    refine sb_Wlet ?_
    simp (disch := omega) only [sb_lit, sb_n_add, sb_n_mul, sb_n_ix, sb_n_lt, sb_n_le, sb_n_eq, sb_ib_n]
    exact k
  · intro n y hy _ ih
    have ih := ih trivial
    have nst := n4 y hy
    unfold sb_st at nst
    rw [decide_eq_false_iff_not] at nst
    have e1 := h3 x y hx (by omega)
    have e2 := h2 y b (by omega) hb
    have e3 := h2 x b hx hb
    have g1 := gr x b hx hb
    have g2 := gr y b (by omega) hb
    have g3 := dr x y
    have skip : sb_W (F_Mo_findWay_b102 kc31 (F_Mo_findWay_b39 kc31 n) (sb_n b) (sb_n x) (sb_n y) s) Q := by
      unfold F_Mo_findWay_b102
      refine sb_Wlet ?_
      simp (disch := omega) only [sb_lit, sb_n_add, sb_n_mul, sb_n_ix, sb_n_lt, sb_n_le, sb_n_eq, sb_ib_n]
      exact ih
    simp only [F_Mo_findWay_b39]
    refine sb_Wif (fun _ => skip) (fun t => ?_)
    rw [sb_n_eq (by omega) (by omega)] at t
    refine sb_Wpos (by first | omega | (simp (disch := omega) only [sb_lit, sb_n_add, sb_n_mul, sb_n_ix, sb_n_lt, sb_n_le, sb_n_eq, sb_ib_n] <;> omega)) ?_
    refine sb_Wif (fun _ => skip) (fun t2 => ?_)
    simp (disch := omega) only [sb_lit, sb_n_mul, sb_n_add, sb_n_ix, e1] at t2
    rw [sb_n_i, sb_i_le (by omega) (by omega) (by omega) (by omega)] at t2
    refine sb_Wpos (by first | omega | (simp (disch := omega) only [sb_lit, sb_n_add, sb_n_mul, sb_n_ix, sb_n_lt, sb_n_le, sb_n_eq, sb_ib_n] <;> omega)) ?_
    refine sb_Wpos (by first | omega | (simp (disch := omega) only [sb_lit, sb_n_add, sb_n_mul, sb_n_ix, sb_n_lt, sb_n_le, sb_n_eq, sb_ib_n] <;> omega)) ?_
    refine sb_Wpos (by first | omega | (simp (disch := omega) only [sb_lit, sb_n_add, sb_n_mul, sb_n_ix, sb_n_lt, sb_n_le, sb_n_eq, sb_ib_n] <;> omega)) ?_
    refine sb_Wneg ?_ skip
    simp (disch := omega) only [sb_lit, sb_n_add, sb_n_mul, sb_n_ix, sb_n_lt, sb_n_le, sb_n_eq, sb_ib_n, e1, e2, e3, sb_i_add, sb_i_eq]
    exact fun w => nst ⟨t, by omega, w⟩
theorem sb_findWay (hR : sb_RM N A B M O s) {a b : Nat} (ha : a < 16) (hb : b < 16) :
    sb_W (F_Mo_findWay (sb_n a) (sb_n b) s) (fun r => sb_fr [192, 193, 194, 187009] s r.2 ∧ r.1 = (if sb_D N A B M O (-1) a b < 100000 then 1 else 0) ∧ (sb_D N A B M O (-1) a b < 100000 → r.2.1 187 9 = sb_n (sb_wm (sb_di0 N A B M O (-1)) (sb_D N A B M O (-1)) b a) ∧ ∀ i, i < sb_wm (sb_di0 N A B M O (-1)) (sb_D N A B M O (-1)) b a → r.2.1 194 i = sb_i (sb_lw N A B M O a b i))) := by
  have hln := sb_RM_ln hR
  have gr := (sb_D_gr (O := O) hln (-1)).1.2.1
  unfold F_Mo_findWay
  rw [sb_m1]
  refine sb_Wbind2 (sb_findFar (o := -1) (by omega) (by omega) hR) (fun t ht => ?_)
  obtain ⟨f1, f2, f3⟩ := ht
  refine sb_Wlet ?_
  refine sb_Wpos (by first | omega | (simp (disch := omega) only [sb_lit, sb_n_add, sb_n_mul, sb_n_ix, sb_n_lt, sb_n_le, sb_n_eq, sb_ib_n] <;> omega)) ?_
  have e1 : (ss_setI t 187 9 0).1 192 (16 * a + b) = sb_i (sb_D N A B M O (-1) a b) := (sb_set_ne (by omega)).trans (f3 a b ha hb)
  have g1 := gr a b ha hb
  have z : (sb_i (sb_D N A B M O (-1) a b) < (100000 : Int32)) = (sb_D N A B M O (-1) a b < 100000) := by rw [show (100000 : Int32) = sb_i 100000 from sb_n_i 100000]; exact sb_i_lt (by omega) (by omega) (by omega) (by omega)
  have e2 : (((16 : Int32) * sb_n a) + sb_n b).toNatClampNeg = 16 * a + b := by simp (disch := omega) only [sb_lit, sb_n_add, sb_n_mul, sb_n_ix, sb_n_lt, sb_n_le, sb_n_eq, sb_ib_n]
  rw [e2, e1]
  simp only [z]
  refine sb_Wif (fun q => ?_) (fun q => ?_)
  · obtain ⟨m1, m2, m3⟩ := sb_wm_ok (O := O) hln ha hb q
    have hwp := sb_wp_ok (O := O) hln ha hb q
    have loop := sb_while (Q := fun r => sb_fr [192, 193, 194, 187009] s r.2 ∧ r.1 = (1 : Int32) ∧ r.2.1 187 9 = sb_n (sb_wm (sb_di0 N A B M O (-1)) (sb_D N A B M O (-1)) b a) ∧ ∀ i, i < sb_wm (sb_di0 N A B M O (-1)) (sb_D N A B M O (-1)) b a → r.2.1 194 i = sb_i (sb_lw N A B M O a b i))
      (fun n (p : Nat × sv_S) => F_Mo_findWay_b31 n (sb_n b) (sb_n (sb_wp (sb_di0 N A B M O (-1)) (sb_D N A B M O (-1)) b a p.1)) p.2)
      (fun p => p.1 ≤ sb_wm (sb_di0 N A B M O (-1)) (sb_D N A B M O (-1)) b a ∧ sb_fr [192, 193, 194, 187009] s p.2 ∧ sb_gd p.2 193 (sb_di0 N A B M O (-1)) ∧ sb_gd p.2 192 (sb_D N A B M O (-1)) ∧ p.2.1 187 9 = sb_n p.1 ∧ ∀ i, i < p.1 → p.2.1 194 i = sb_i (sb_lw N A B M O a b i))
      (fun p => 16 - p.1) ?_ ss_F (0, ss_setI t 187 9 0) ⟨by omega, sb_fr_set (sb_fr_mono f1 (by decide)) rfl, fun x y hx hy => (sb_set_ne (by omega)).trans (f2 x y hx hy), fun x y hx hy => (sb_set_ne (by omega)).trans (f3 x y hx hy), sb_set_eq, fun i hi => absurd hi (by simp)⟩ (by unfold ss_F; simp)
    · refine sb_Wmono loop (fun r hr => ⟨hr.1, by rw [if_pos q]; exact hr.2.1, fun _ => hr.2.2⟩)
    · intro n p hI ih
      obtain ⟨i, u⟩ := p
      obtain ⟨j1, j2, j3, j4, j5, j6⟩ := hI
      simp only at j1 j2 j3 j4 j5 j6
      simp only [F_Mo_findWay_b31]
      have w := hwp i
      by_cases e : sb_wp (sb_di0 N A B M O (-1)) (sb_D N A B M O (-1)) b a i = b
      · have : i = sb_wm (sb_di0 N A B M O (-1)) (sb_D N A B M O (-1)) b a := by
          by_cases v : i < sb_wm (sb_di0 N A B M O (-1)) (sb_D N A B M O (-1)) b a
          · exact absurd e (m3 i v)
          · omega
        rw [if_pos (by rw [e])]
        subst this
        exact sb_Wsome ⟨j2, rfl, j5, j6⟩
      · have hlt : i < sb_wm (sb_di0 N A B M O (-1)) (sb_D N A B M O (-1)) b a := by
          by_cases v : i = sb_wm (sb_di0 N A B M O (-1)) (sb_D N A B M O (-1)) b a
          · rw [v] at e; exact absurd m2 e
          · omega
        rw [if_neg (by rw [sb_n_eq (by omega) (by omega)]; exact e)]
        have ste : sb_wp (sb_di0 N A B M O (-1)) (sb_D N A B M O (-1)) b a (i + 1) = sb_nx (sb_di0 N A B M O (-1)) (sb_D N A B M O (-1)) b (sb_wp (sb_di0 N A B M O (-1)) (sb_D N A B M O (-1)) b a i) := by simp only [sb_wp]; rw [if_neg e]
        have nx16 := (sb_nx_ok (O := O) hln w.1 hb e w.2.1).1
        refine sb_fw39 (sb_RM_fr hR j2 (by decide)) w.1 hb e w.2.1 j3 j4 j5 (by omega) ?_ ss_F 0 (by omega) (by unfold ss_F; omega) trivial
        have := ih (i + 1, ss_setI (ss_setI u 194 i (sb_i (sb_bs A B M N (sb_wp (sb_di0 N A B M O (-1)) (sb_D N A B M O (-1)) b a i) (sb_nx (sb_di0 N A B M O (-1)) (sb_D N A B M O (-1)) b (sb_wp (sb_di0 N A B M O (-1)) (sb_D N A B M O (-1)) b a i))))) 187 9 (sb_n (i + 1))) ⟨hlt, sb_fr_set (sb_fr_set j2 rfl) rfl, fun x y hx hy => by rw [sb_set_ne (by omega), sb_set_ne (by omega)]; exact j3 x y hx hy, fun x y hx hy => by rw [sb_set_ne (by omega), sb_set_ne (by omega)]; exact j4 x y hx hy, sb_set_eq, fun c hc => ?_⟩ (by simp only; omega)
        · simp only at this; rw [ste] at this; exact this
        · rw [sb_set_ne (by omega)]
          by_cases v : c = i
          · subst v; rw [sb_set_eq]; unfold sb_lw; rw [ste]
          · simp only at hc; rw [sb_set_ne (by omega)]; exact j6 c (by omega)
  · refine sb_Wsome ⟨sb_fr_set (sb_fr_mono f1 (by decide)) rfl, ?_, fun w => absurd w q⟩
    rw [if_neg q]
end WAY
