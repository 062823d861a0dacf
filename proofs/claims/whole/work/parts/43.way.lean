/-! ways -/
def zb_ls (f : Nat → Bool) : Nat → Nat → Nat
  | 0, k => k
  | n + 1, k => if f k = true then k else zb_ls f n (k + 1)
theorem zb_ls_ok {f : Nat → Bool} : ∀ (n k j : Nat), k ≤ j → j < k + n → f j = true → f (zb_ls f n k) = true ∧ k ≤ zb_ls f n k ∧ zb_ls f n k ≤ j ∧ ∀ i, k ≤ i → i < zb_ls f n k → f i = false := by
  intro n
  induction n with
  | zero => intro k j h1 h2; omega
  | succ n ih =>
    intro k j h1 h2 h3
    simp only [zb_ls]
    by_cases q : f k = true
    · rw [if_pos q]; exact ⟨q, Nat.le_refl _, h1, fun i _ _ => by omega⟩
    · rw [if_neg q]
      have : k ≠ j := fun e => q (e ▸ h3)
      obtain ⟨i1, i2, i3, i4⟩ := ih (k + 1) j (by omega) (by omega) h3
      refine ⟨i1, by omega, i3, fun i a b => ?_⟩
      by_cases e : i = k
      · subst e; simpa using q
      · exact i4 i (by omega) b
/-- the least number that keeps f is that one -/
theorem zb_ls_is {f : Nat → Bool} {n j : Nat} (h1 : j < n) (h2 : f j = true) (h3 : ∀ i, i < j → f i = false) : zb_ls f n 0 = j := by
  obtain ⟨i1, _, i3, _⟩ := zb_ls_ok n 0 j (by omega) (by omega) h2
  by_cases e : zb_ls f n 0 = j
  · exact e
  · rw [h3 _ (by omega)] at i1; cases i1
def zb_st (g d : Nat → Nat → Int) (b x y : Nat) : Bool := decide (y ≠ x ∧ g x y < 100000 ∧ g x y + d y b = d x b)
def zb_nx (g d : Nat → Nat → Int) (b x : Nat) : Nat := zb_ls (zb_st g d b x) 16 0
def zb_wp (g d : Nat → Nat → Int) (b x : Nat) : Nat → Nat
  | 0 => x
  | i + 1 => if zb_wp g d b x i = b then b else zb_nx g d b (zb_wp g d b x i)
def zb_wm (g d : Nat → Nat → Int) (b x : Nat) : Nat := zb_ls (fun i => decide (zb_wp g d b x i = b)) 16 0
section WAY
variable {N : Nat} {A B : Nat → Nat} {M : Nat → Int} {O : Nat → Nat} {s : sv_S}
/-- direct miles, fewest miles, by lines of an owner or of any -/
def zb_di0 (N : Nat) (A B : Nat → Nat) (M : Nat → Int) (O : Nat → Nat) (o : Int) : Nat → Nat → Int := zb_di A B M (zb_ow O o) 100000 N
def zb_D (N : Nat) (A B : Nat → Nat) (M : Nat → Int) (O : Nat → Nat) (o : Int) : Nat → Nat → Int := zb_fw (zb_di0 N A B M O o) 16
theorem zb_D_gr (h : zb_ln N A B M) (o : Int) : zb_gr N A B M (fun l => zb_ow O o l = true) 100000 (zb_D N A B M O o) := zb_fw_gr (by omega) h
theorem zb_ow_any : zb_ow O (-1) = fun _ => true := by funext l; unfold zb_ow; simp
theorem zb_st_ex (h : zb_ln N A B M) {x b : Nat} (hx : x < 16) (hb : b < 16) (hxb : x ≠ b) (hlt : zb_D N A B M O (-1) x b < 100000) : ∃ y, y < 16 ∧ zb_st (zb_di0 N A B M O (-1)) (zb_D N A B M O (-1)) b x y = true := by
  have hg := zb_D_gr (O := O) h (-1)
  obtain ⟨l, hl, _, q⟩ := zb_gr_tight h hg hx hb hxb hlt
  have hL := h l hl
  obtain ⟨_, _, _, i4, _⟩ := zb_di_ok (p := zb_ow O (-1)) (F := 100000) (by omega) N h
  have i4' := i4 l hl (by rw [zb_ow_any])
  have low : ∀ y, y < 16 → zb_D N A B M O (-1) x b ≤ zb_di0 N A B M O (-1) x y + zb_D N A B M O (-1) y b := by
    intro y hy
    have t := hg.1.2.2.2 x y b hx hy hb
    have u := ((zb_fw_ok (F := 100000) (d := zb_di0 N A B M O (-1)) (fun a _ => (zb_di_ok (p := zb_ow O (-1)) (F := 100000) (by omega) N h).1 a) (fun a b _ _ => (zb_di_ok (p := zb_ow O (-1)) (F := 100000) (by omega) N h).2.1 a b) 16 (by omega)).2.1 x y hx hy).2
    have : zb_D N A B M O (-1) x y = zb_fw (zb_di0 N A B M O (-1)) 16 x y := rfl
    omega
  rcases q with ⟨q1, q2⟩ | ⟨q1, q2⟩
  · refine ⟨B l, hL.2.1, ?_⟩
    have t := low (B l) hL.2.1
    rw [q1] at i4'
    have i5 : zb_di0 N A B M O (-1) x (B l) ≤ M l := i4'
    unfold zb_st
    rw [decide_eq_true_eq]
    exact ⟨fun e => hL.2.2.1 (q1.trans e.symm), by omega, by omega⟩
  · refine ⟨A l, hL.1, ?_⟩
    have t := low (A l) hL.1
    rw [q1] at i4'
    have i5 : zb_di0 N A B M O (-1) x (A l) ≤ M l := by unfold zb_di0; rw [zb_di_comm]; exact i4'
    unfold zb_st
    rw [decide_eq_true_eq]
    exact ⟨fun e => hL.2.2.1 (e.trans q1.symm), by omega, by omega⟩
theorem zb_nx_ok (h : zb_ln N A B M) {x b : Nat} (hx : x < 16) (hb : b < 16) (hxb : x ≠ b) (hlt : zb_D N A B M O (-1) x b < 100000) :
    zb_nx (zb_di0 N A B M O (-1)) (zb_D N A B M O (-1)) b x < 16 ∧ zb_st (zb_di0 N A B M O (-1)) (zb_D N A B M O (-1)) b x (zb_nx (zb_di0 N A B M O (-1)) (zb_D N A B M O (-1)) b x) = true ∧ zb_D N A B M O (-1) (zb_nx (zb_di0 N A B M O (-1)) (zb_D N A B M O (-1)) b x) b < zb_D N A B M O (-1) x b ∧ ∀ i, i < zb_nx (zb_di0 N A B M O (-1)) (zb_D N A B M O (-1)) b x → zb_st (zb_di0 N A B M O (-1)) (zb_D N A B M O (-1)) b x i = false := by
  obtain ⟨y, hy, q⟩ := zb_st_ex (O := O) h hx hb hxb hlt
  obtain ⟨i1, _, i3, i4⟩ := zb_ls_ok 16 0 y (by omega) (by omega) q
  refine ⟨by unfold zb_nx; omega, i1, ?_, fun i hi => i4 i (by omega) hi⟩
  have i1' := i1
  unfold zb_st at i1'
  rw [decide_eq_true_eq] at i1'
  have := (zb_di_ok (p := zb_ow O (-1)) (F := 100000) (by omega) N h).2.2.1 x _ (Ne.symm i1'.1)
  have e : zb_nx (zb_di0 N A B M O (-1)) (zb_D N A B M O (-1)) b x = zb_ls (zb_st (zb_di0 N A B M O (-1)) (zb_D N A B M O (-1)) b x) 16 0 := rfl
  rw [e]
  have i6 := i1'.2.2
  unfold zb_st at i6
  unfold zb_di0 at i6 ⊢
  unfold zb_st at this
  unfold zb_di0 at this
  unfold zb_st
  omega
/-- stations on a way: below the first that is b all are others, and each is nearer -/
theorem zb_wp_ok (h : zb_ln N A B M) {x b : Nat} (hx : x < 16) (hb : b < 16) (hlt : zb_D N A B M O (-1) x b < 100000) (i : Nat) :
    zb_wp (zb_di0 N A B M O (-1)) (zb_D N A B M O (-1)) b x i < 16 ∧ zb_D N A B M O (-1) (zb_wp (zb_di0 N A B M O (-1)) (zb_D N A B M O (-1)) b x i) b < 100000 ∧ ((∀ j, j < i → zb_wp (zb_di0 N A B M O (-1)) (zb_D N A B M O (-1)) b x j ≠ b) → i + zb_nr (zb_D N A B M O (-1)) b (zb_D N A B M O (-1) (zb_wp (zb_di0 N A B M O (-1)) (zb_D N A B M O (-1)) b x i) b) 16 ≤ 15) := by
  induction i with
  | zero => exact ⟨hx, hlt, fun _ => by have := zb_nr_15 (d := zb_D N A B M O (-1)) (a := x) (b := b) hx; simp only [zb_wp]; omega⟩
  | succ i ih =>
    obtain ⟨j1, j2, j3⟩ := ih
    have hz : zb_D N A B M O (-1) b b = 0 := (zb_D_gr (O := O) h (-1)).1.1 b hb
    by_cases e : zb_wp (zb_di0 N A B M O (-1)) (zb_D N A B M O (-1)) b x i = b
    · simp only [zb_wp, if_pos e]
      exact ⟨hb, by omega, fun q => absurd e (q i (by omega))⟩
    · simp only [zb_wp, if_neg e]
      obtain ⟨k1, k2, k3, k4⟩ := zb_nx_ok (O := O) h j1 hb e j2
      refine ⟨k1, by omega, fun q => ?_⟩
      have := j3 (fun j hj => q j (by omega))
      have := zb_nr_lt (d := zb_D N A B M O (-1)) (b := b) (Int.le_of_lt k3) (Int.lt_irrefl _) k3 16 k1
      omega
theorem zb_wm_ok (h : zb_ln N A B M) {x b : Nat} (hx : x < 16) (hb : b < 16) (hlt : zb_D N A B M O (-1) x b < 100000) :
    zb_wm (zb_di0 N A B M O (-1)) (zb_D N A B M O (-1)) b x ≤ 15 ∧ zb_wp (zb_di0 N A B M O (-1)) (zb_D N A B M O (-1)) b x (zb_wm (zb_di0 N A B M O (-1)) (zb_D N A B M O (-1)) b x) = b ∧ ∀ i, i < zb_wm (zb_di0 N A B M O (-1)) (zb_D N A B M O (-1)) b x → zb_wp (zb_di0 N A B M O (-1)) (zb_D N A B M O (-1)) b x i ≠ b := by
  have ex : ∃ i, i ≤ 15 ∧ zb_wp (zb_di0 N A B M O (-1)) (zb_D N A B M O (-1)) b x i = b := by
    refine Classical.byContradiction fun no => ?_
    have no' : ∀ i, i ≤ 15 → zb_wp (zb_di0 N A B M O (-1)) (zb_D N A B M O (-1)) b x i ≠ b := fun i hi e => no ⟨i, hi, e⟩
    have := (zb_wp_ok (O := O) h hx hb hlt 16).2.2 (fun j hj => no' j (by omega))
    omega
  obtain ⟨i, hi, e⟩ := ex
  obtain ⟨i1, _, i3, i4⟩ := zb_ls_ok (f := fun i => decide (zb_wp (zb_di0 N A B M O (-1)) (zb_D N A B M O (-1)) b x i = b)) 16 0 i (by omega) (by omega) (by simpa using e)
  exact ⟨by unfold zb_wm; omega, of_decide_eq_true i1, fun j hj => of_decide_eq_false (i4 j (by omega) hj)⟩
theorem zb_bs_self (h : zb_ln N A B M) (a : Nat) : ∀ k, k ≤ N → zb_bs A B M k a a = -1 := by
  intro k
  induction k with
  | zero => intro _; rfl
  | succ k ih =>
    intro hk
    have hL := h k (by omega)
    rw [zb_bs_s, if_neg, ih (by omega)]
    intro t
    rcases t.1 with w | w <;> exact hL.2.2.1 (w.1.trans w.2.symm)
theorem zb_ln_le {k : Nat} (h : zb_ln N A B M) (hk : k ≤ N) : zb_ln k A B M := fun l hl => h l (by omega)
theorem zb_bs_rg (h : zb_ln N A B M) (a b : Nat) {k : Nat} (hk : k ≤ N) : -1 ≤ zb_bs A B M k a b ∧ zb_bs A B M k a b < k := by
  by_cases e : a = b
  · subst e; rw [zb_bs_self h a k hk]; omega
  · exact (zb_bs_ok (F := 100000) (by omega) k (zb_ln_le h hk) a b e).1
/-- the model's line for two stations -/
theorem zb_lineFor (hR : zb_RM N A B M O s) {a b : Nat} (ha : a < 16) (hb : b < 16) : zb_W (F_Mo_lineFor (zb_n a) (zb_n b) s) (fun r => r = zb_i (zb_bs A B M N a b)) := by
  have hln := zb_RM_ln hR
  have hN := hR.1
  unfold F_Mo_lineFor
  refine zb_for0 (fun n l => F_Mo_lineFor_b5 s n (zb_n a) (zb_n b) (zb_i (zb_bs A B M l a b)) (zb_n l)) N (fun _ => True) ?_ ?_ ss_F 0 (by omega) (by unfold ss_F; omega) trivial
  · intro n _
    simp only [F_Mo_lineFor_b5]
    rw [if_pos (by rw [hR.2.1]; exact Int32.le_refl _)]
    exact zb_Wsome rfl
  · intro n l hl _ ih
    have ih := ih trivial
    obtain ⟨q1, q2, q3, q4, q5, q6, q7, q8, q9, q10⟩ := hR.2.2 l hl
    have g := zb_bs_rg hln a b (k := l) (by omega)
    have no : ¬ (((A l = a ∧ B l = b) ∨ (A l = b ∧ B l = a)) ∧ (zb_bs A B M l a b < 0 ∨ M l < M (zb_bs A B M l a b).toNat)) → zb_W (F_Mo_lineFor_b81 s (F_Mo_lineFor_b5 s n) (zb_n a) (zb_n b) (zb_i (zb_bs A B M l a b)) (zb_n l)) (fun r => r = zb_i (zb_bs A B M N a b)) := by
      intro q
      unfold F_Mo_lineFor_b81
      refine zb_Wlet ?_
      simp (disch := omega) only [zb_lit, zb_n_add, zb_n_mul, zb_n_ix, zb_n_lt, zb_n_le, zb_n_eq, zb_ib_n]
      rw [zb_bs_s, if_neg q] at ih
      exact ih
    have yes : (((A l = a ∧ B l = b) ∨ (A l = b ∧ B l = a)) ∧ (zb_bs A B M l a b < 0 ∨ M l < M (zb_bs A B M l a b).toNat)) → zb_W (F_Mo_lineFor_b81 s (F_Mo_lineFor_b5 s n) (zb_n a) (zb_n b) (zb_n l) (zb_n l)) (fun r => r = zb_i (zb_bs A B M N a b)) := by
      intro q
      unfold F_Mo_lineFor_b81
      refine zb_Wlet ?_
      simp (disch := omega) only [zb_lit, zb_n_add, zb_n_mul, zb_n_ix, zb_n_lt, zb_n_le, zb_n_eq, zb_ib_n]
      rw [zb_bs_s, if_pos q, ← zb_n_i] at ih
      exact ih
    have two : ((A l = a ∧ B l = b) ∨ (A l = b ∧ B l = a)) → zb_W (F_Mo_lineFor_b58 s (F_Mo_lineFor_b5 s n) (zb_n a) (zb_n b) (zb_i (zb_bs A B M l a b)) (zb_n l)) (fun r => r = zb_i (zb_bs A B M N a b)) := by
      intro q
      unfold F_Mo_lineFor_b58 F_Mo_lineFor_b78
      have z : (zb_i (zb_bs A B M l a b) < zb_n 0) = (zb_bs A B M l a b < 0) := by rw [zb_n_i]; exact zb_i_lt (by omega) (by omega) (by omega) (by omega)
      simp only [zb_lit, z]
      refine zb_Wif (fun t => yes ⟨q, Or.inl t⟩) (fun t => ?_)
      have e : zb_i (zb_bs A B M l a b) = zb_n (zb_bs A B M l a b).toNat := by rw [zb_n_i, Int.toNat_of_nonneg (by omega)]
      have hM := hln (zb_bs A B M l a b).toNat (by omega)
      have e2 : s.1 191 (zb_bs A B M l a b).toNat = zb_i (M (zb_bs A B M l a b).toNat) := (hR.2.2 _ (by omega)).2.2.2.1
      rw [e]
      refine zb_Wpos (by first | omega | (simp (disch := omega) only [zb_lit, zb_n_add, zb_n_mul, zb_n_ix, zb_n_lt, zb_n_le, zb_n_eq, zb_ib_n] <;> omega)) ?_
      refine zb_Wpos (by first | omega | (simp (disch := omega) only [zb_lit, zb_n_add, zb_n_mul, zb_n_ix, zb_n_lt, zb_n_le, zb_n_eq, zb_ib_n] <;> omega)) ?_
      simp (disch := omega) only [zb_lit, zb_n_add, zb_n_mul, zb_n_ix, zb_n_lt, zb_n_le, zb_n_eq, zb_ib_n, e2, q4, zb_i_le]
      rw [← e]
      refine zb_Wif (fun u => no (fun v => ?_)) (fun u => yes ⟨q, Or.inr (by omega)⟩)
      rcases v.2 with w | w <;> omega
    have b36 : ¬ (A l = a ∧ B l = b) → zb_W (F_Mo_lineFor_b36 s (F_Mo_lineFor_b5 s n) (zb_n a) (zb_n b) (zb_i (zb_bs A B M l a b)) (zb_n l)) (fun r => r = zb_i (zb_bs A B M N a b)) := by
      intro q
      unfold F_Mo_lineFor_b36
      refine zb_Wpos (by first | omega | (simp (disch := omega) only [zb_lit, zb_n_add, zb_n_mul, zb_n_ix, zb_n_lt, zb_n_le, zb_n_eq, zb_ib_n] <;> omega)) ?_
      simp (disch := omega) only [zb_lit, zb_n_add, zb_n_mul, zb_n_ix, zb_n_lt, zb_n_le, zb_n_eq, zb_ib_n, q2, q3]
      refine zb_Wif (fun t => ?_) (fun t => no (fun v => by rcases v.1 with w | w; exact q w; exact t w.1))
      refine zb_Wpos (by first | omega | (simp (disch := omega) only [zb_lit, zb_n_add, zb_n_mul, zb_n_ix, zb_n_lt, zb_n_le, zb_n_eq, zb_ib_n] <;> omega)) ?_
      refine zb_Wif (fun u => two (Or.inr ⟨t, u⟩)) (fun u => no (fun v => by rcases v.1 with w | w; exact q w; exact u w.2))
    simp only [F_Mo_lineFor_b5]
    simp (disch := omega) only [zb_lit, zb_n_add, zb_n_mul, zb_n_ix, zb_n_lt, zb_n_le, zb_n_eq, zb_ib_n, hR.2.1, q2, q3]
    rw [if_neg (by omega)]
    refine zb_Wpos (by first | omega | (simp (disch := omega) only [zb_lit, zb_n_add, zb_n_mul, zb_n_ix, zb_n_lt, zb_n_le, zb_n_eq, zb_ib_n] <;> omega)) ?_
    refine zb_Wif (fun t => ?_) (fun t => b36 (fun v => t v.1))
    refine zb_Wpos (by first | omega | (simp (disch := omega) only [zb_lit, zb_n_add, zb_n_mul, zb_n_ix, zb_n_lt, zb_n_le, zb_n_eq, zb_ib_n] <;> omega)) ?_
    refine zb_Wif (fun u => two (Or.inl ⟨t, u⟩)) (fun u => b36 (fun v => u v.2))
/-- line i of a way -/
def zb_lw (N : Nat) (A B : Nat → Nat) (M : Nat → Int) (O : Nat → Nat) (a b i : Nat) : Int := zb_bs A B M N (zb_wp (zb_di0 N A B M O (-1)) (zb_D N A B M O (-1)) b a i) (zb_wp (zb_di0 N A B M O (-1)) (zb_D N A B M O (-1)) b a (i + 1))
theorem zb_fw39 {Q : Int32 × sv_S → Prop} {kc31 : Int32 → Int32 → sv_S → Option (Int32 × sv_S)} {x b i : Nat} (hR : zb_RM N A B M O s) (hx : x < 16) (hb : b < 16) (hxb : x ≠ b) (hlt : zb_D N A B M O (-1) x b < 100000) (h3 : zb_gd s 193 (zb_di0 N A B M O (-1))) (h2 : zb_gd s 192 (zb_D N A B M O (-1))) (h9 : s.1 187 9 = zb_n i) (hi : i < 16)
    (k : zb_W (kc31 (zb_n b) (zb_n (zb_nx (zb_di0 N A B M O (-1)) (zb_D N A B M O (-1)) b x)) (ss_setI (ss_setI s 194 i (zb_i (zb_bs A B M N x (zb_nx (zb_di0 N A B M O (-1)) (zb_D N A B M O (-1)) b x)))) 187 9 (zb_n (i + 1)))) Q) :
    ∀ (n y : Nat), y ≤ zb_nx (zb_di0 N A B M O (-1)) (zb_D N A B M O (-1)) b x → zb_nx (zb_di0 N A B M O (-1)) (zb_D N A B M O (-1)) b x < n + y → True → zb_W (F_Mo_findWay_b39 kc31 n (zb_n b) (zb_n x) (zb_n y) s) Q := by
  have hln := zb_RM_ln hR
  obtain ⟨n1, n2, n3, n4⟩ := zb_nx_ok (O := O) hln hx hb hxb hlt
  have gr := (zb_D_gr (O := O) hln (-1)).1.2.1
  have dr : ∀ x y, 0 ≤ zb_di0 N A B M O (-1) x y ∧ zb_di0 N A B M O (-1) x y ≤ 100000 := (zb_di_ok (p := zb_ow O (-1)) (F := 100000) (by omega) N hln).2.1
  refine zb_for0 (fun n y => F_Mo_findWay_b39 kc31 n (zb_n b) (zb_n x) (zb_n y) s) _ (fun _ => True) ?_ ?_
  · intro n _
    unfold zb_st at n2
    rw [decide_eq_true_eq] at n2
    have e1 := h3 x _ hx n1
    have e2 := h2 _ b n1 hb
    have e3 := h2 x b hx hb
    have g1 := gr x b hx hb
    have g2 := gr _ b n1 hb
    have g3 := dr x (zb_nx (zb_di0 N A B M O (-1)) (zb_D N A B M O (-1)) b x)
    simp only [F_Mo_findWay_b39]
    generalize zb_nx (zb_di0 N A B M O (-1)) (zb_D N A B M O (-1)) b x = y at *
    refine zb_Wneg (by first | omega | (simp (disch := omega) only [zb_lit, zb_n_add, zb_n_mul, zb_n_ix, zb_n_lt, zb_n_le, zb_n_eq, zb_ib_n] <;> omega)) ?_
    refine zb_Wpos (by first | omega | (simp (disch := omega) only [zb_lit, zb_n_add, zb_n_mul, zb_n_ix, zb_n_lt, zb_n_le, zb_n_eq, zb_ib_n] <;> omega)) ?_
    refine zb_Wneg ?_ ?_
    · simp (disch := omega) only [zb_lit, zb_n_add, zb_n_mul, zb_n_ix, zb_n_lt, zb_n_le, zb_n_eq, zb_ib_n, e1]
      rw [zb_n_i, zb_i_le (by omega) (by omega) (by omega) (by omega)]; omega
    refine zb_Wpos (by first | omega | (simp (disch := omega) only [zb_lit, zb_n_add, zb_n_mul, zb_n_ix, zb_n_lt, zb_n_le, zb_n_eq, zb_ib_n] <;> omega)) ?_
    refine zb_Wpos (by first | omega | (simp (disch := omega) only [zb_lit, zb_n_add, zb_n_mul, zb_n_ix, zb_n_lt, zb_n_le, zb_n_eq, zb_ib_n] <;> omega)) ?_
    refine zb_Wpos (by first | omega | (simp (disch := omega) only [zb_lit, zb_n_add, zb_n_mul, zb_n_ix, zb_n_lt, zb_n_le, zb_n_eq, zb_ib_n] <;> omega)) ?_
    refine zb_Wpos ?_ ?_
    · simp (disch := omega) only [zb_lit, zb_n_add, zb_n_mul, zb_n_ix, zb_n_lt, zb_n_le, zb_n_eq, zb_ib_n, e1, e2, e3, zb_i_add]
      rw [n2.2.2]
    refine zb_Wbind2 (zb_lineFor hR hx n1) (fun r hr => ?_)
    subst hr
    rw [h9]
    refine zb_Wpos (by first | omega | (simp (disch := omega) only [zb_lit, zb_n_add, zb_n_mul, zb_n_ix, zb_n_lt, zb_n_le, zb_n_eq, zb_ib_n] <;> omega)) ?_
    refine zb_Wlet ?_
    simp (disch := omega) only [zb_lit, zb_n_add, zb_n_mul, zb_n_ix, zb_n_lt, zb_n_le, zb_n_eq, zb_ib_n]
    have e9 : (ss_setI s 194 i (zb_i (zb_bs A B M N x y))).1 187 9 = zb_n i := (zb_set_ne (by omega)).trans h9
    rw [e9]
    refine zb_Wlet ?_
    simp (disch := omega) only [zb_lit, zb_n_add, zb_n_mul, zb_n_ix, zb_n_lt, zb_n_le, zb_n_eq, zb_ib_n]
    exact k
  · intro n y hy _ ih
    have ih := ih trivial
    have nst := n4 y hy
    unfold zb_st at nst
    rw [decide_eq_false_iff_not] at nst
    have e1 := h3 x y hx (by omega)
    have e2 := h2 y b (by omega) hb
    have e3 := h2 x b hx hb
    have g1 := gr x b hx hb
    have g2 := gr y b (by omega) hb
    have g3 := dr x y
    have skip : zb_W (F_Mo_findWay_b102 kc31 (F_Mo_findWay_b39 kc31 n) (zb_n b) (zb_n x) (zb_n y) s) Q := by
      unfold F_Mo_findWay_b102
      refine zb_Wlet ?_
      simp (disch := omega) only [zb_lit, zb_n_add, zb_n_mul, zb_n_ix, zb_n_lt, zb_n_le, zb_n_eq, zb_ib_n]
      exact ih
    simp only [F_Mo_findWay_b39]
    refine zb_Wif (fun _ => skip) (fun t => ?_)
    rw [zb_n_eq (by omega) (by omega)] at t
    refine zb_Wpos (by first | omega | (simp (disch := omega) only [zb_lit, zb_n_add, zb_n_mul, zb_n_ix, zb_n_lt, zb_n_le, zb_n_eq, zb_ib_n] <;> omega)) ?_
    refine zb_Wif (fun _ => skip) (fun t2 => ?_)
    simp (disch := omega) only [zb_lit, zb_n_mul, zb_n_add, zb_n_ix, e1] at t2
    rw [zb_n_i, zb_i_le (by omega) (by omega) (by omega) (by omega)] at t2
    refine zb_Wpos (by first | omega | (simp (disch := omega) only [zb_lit, zb_n_add, zb_n_mul, zb_n_ix, zb_n_lt, zb_n_le, zb_n_eq, zb_ib_n] <;> omega)) ?_
    refine zb_Wpos (by first | omega | (simp (disch := omega) only [zb_lit, zb_n_add, zb_n_mul, zb_n_ix, zb_n_lt, zb_n_le, zb_n_eq, zb_ib_n] <;> omega)) ?_
    refine zb_Wpos (by first | omega | (simp (disch := omega) only [zb_lit, zb_n_add, zb_n_mul, zb_n_ix, zb_n_lt, zb_n_le, zb_n_eq, zb_ib_n] <;> omega)) ?_
    refine zb_Wneg ?_ skip
    simp (disch := omega) only [zb_lit, zb_n_add, zb_n_mul, zb_n_ix, zb_n_lt, zb_n_le, zb_n_eq, zb_ib_n, e1, e2, e3, zb_i_add, zb_i_eq]
    exact fun w => nst ⟨t, by omega, w⟩
theorem zb_findWay (hR : zb_RM N A B M O s) {a b : Nat} (ha : a < 16) (hb : b < 16) :
    zb_W (F_Mo_findWay (zb_n a) (zb_n b) s) (fun r => zb_fr [192, 193, 194, 187009] s r.2 ∧ r.1 = (if zb_D N A B M O (-1) a b < 100000 then 1 else 0) ∧ (zb_D N A B M O (-1) a b < 100000 → r.2.1 187 9 = zb_n (zb_wm (zb_di0 N A B M O (-1)) (zb_D N A B M O (-1)) b a) ∧ ∀ i, i < zb_wm (zb_di0 N A B M O (-1)) (zb_D N A B M O (-1)) b a → r.2.1 194 i = zb_i (zb_lw N A B M O a b i))) := by
  have hln := zb_RM_ln hR
  have gr := (zb_D_gr (O := O) hln (-1)).1.2.1
  unfold F_Mo_findWay
  rw [zb_m1]
  refine zb_Wbind2 (zb_findFar (o := -1) (by omega) (by omega) hR) (fun t ht => ?_)
  obtain ⟨f1, f2, f3⟩ := ht
  refine zb_Wlet ?_
  refine zb_Wpos (by first | omega | (simp (disch := omega) only [zb_lit, zb_n_add, zb_n_mul, zb_n_ix, zb_n_lt, zb_n_le, zb_n_eq, zb_ib_n] <;> omega)) ?_
  have e1 : (ss_setI t 187 9 0).1 192 (16 * a + b) = zb_i (zb_D N A B M O (-1) a b) := (zb_set_ne (by omega)).trans (f3 a b ha hb)
  have g1 := gr a b ha hb
  have z : (zb_i (zb_D N A B M O (-1) a b) < (100000 : Int32)) = (zb_D N A B M O (-1) a b < 100000) := by rw [show (100000 : Int32) = zb_i 100000 from zb_n_i 100000]; exact zb_i_lt (by omega) (by omega) (by omega) (by omega)
  have e2 : (((16 : Int32) * zb_n a) + zb_n b).toNatClampNeg = 16 * a + b := by simp (disch := omega) only [zb_lit, zb_n_add, zb_n_mul, zb_n_ix, zb_n_lt, zb_n_le, zb_n_eq, zb_ib_n]
  rw [e2, e1]
  simp only [z]
  refine zb_Wif (fun q => ?_) (fun q => ?_)
  · obtain ⟨m1, m2, m3⟩ := zb_wm_ok (O := O) hln ha hb q
    have hwp := zb_wp_ok (O := O) hln ha hb q
    have loop := zb_while (Q := fun r => zb_fr [192, 193, 194, 187009] s r.2 ∧ r.1 = (1 : Int32) ∧ r.2.1 187 9 = zb_n (zb_wm (zb_di0 N A B M O (-1)) (zb_D N A B M O (-1)) b a) ∧ ∀ i, i < zb_wm (zb_di0 N A B M O (-1)) (zb_D N A B M O (-1)) b a → r.2.1 194 i = zb_i (zb_lw N A B M O a b i))
      (fun n (p : Nat × sv_S) => F_Mo_findWay_b31 n (zb_n b) (zb_n (zb_wp (zb_di0 N A B M O (-1)) (zb_D N A B M O (-1)) b a p.1)) p.2)
      (fun p => p.1 ≤ zb_wm (zb_di0 N A B M O (-1)) (zb_D N A B M O (-1)) b a ∧ zb_fr [192, 193, 194, 187009] s p.2 ∧ zb_gd p.2 193 (zb_di0 N A B M O (-1)) ∧ zb_gd p.2 192 (zb_D N A B M O (-1)) ∧ p.2.1 187 9 = zb_n p.1 ∧ ∀ i, i < p.1 → p.2.1 194 i = zb_i (zb_lw N A B M O a b i))
      (fun p => 16 - p.1) ?_ ss_F (0, ss_setI t 187 9 0) ⟨by omega, zb_fr_set (zb_fr_mono f1 (by decide)) rfl, fun x y hx hy => (zb_set_ne (by omega)).trans (f2 x y hx hy), fun x y hx hy => (zb_set_ne (by omega)).trans (f3 x y hx hy), zb_set_eq, fun i hi => absurd hi (by simp)⟩ (by unfold ss_F; simp)
    · refine zb_Wmono loop (fun r hr => ⟨hr.1, by rw [if_pos q]; exact hr.2.1, fun _ => hr.2.2⟩)
    · intro n p hI ih
      obtain ⟨i, u⟩ := p
      obtain ⟨j1, j2, j3, j4, j5, j6⟩ := hI
      simp only at j1 j2 j3 j4 j5 j6
      simp only [F_Mo_findWay_b31]
      have w := hwp i
      by_cases e : zb_wp (zb_di0 N A B M O (-1)) (zb_D N A B M O (-1)) b a i = b
      · have : i = zb_wm (zb_di0 N A B M O (-1)) (zb_D N A B M O (-1)) b a := by
          by_cases v : i < zb_wm (zb_di0 N A B M O (-1)) (zb_D N A B M O (-1)) b a
          · exact absurd e (m3 i v)
          · omega
        rw [if_pos (by rw [e])]
        subst this
        exact zb_Wsome ⟨j2, rfl, j5, j6⟩
      · have hlt : i < zb_wm (zb_di0 N A B M O (-1)) (zb_D N A B M O (-1)) b a := by
          by_cases v : i = zb_wm (zb_di0 N A B M O (-1)) (zb_D N A B M O (-1)) b a
          · rw [v] at e; exact absurd m2 e
          · omega
        rw [if_neg (by rw [zb_n_eq (by omega) (by omega)]; exact e)]
        have ste : zb_wp (zb_di0 N A B M O (-1)) (zb_D N A B M O (-1)) b a (i + 1) = zb_nx (zb_di0 N A B M O (-1)) (zb_D N A B M O (-1)) b (zb_wp (zb_di0 N A B M O (-1)) (zb_D N A B M O (-1)) b a i) := by simp only [zb_wp]; rw [if_neg e]
        have nx16 := (zb_nx_ok (O := O) hln w.1 hb e w.2.1).1
        refine zb_fw39 (zb_RM_fr hR j2 (by decide)) w.1 hb e w.2.1 j3 j4 j5 (by omega) ?_ ss_F 0 (by omega) (by unfold ss_F; omega) trivial
        have := ih (i + 1, ss_setI (ss_setI u 194 i (zb_i (zb_bs A B M N (zb_wp (zb_di0 N A B M O (-1)) (zb_D N A B M O (-1)) b a i) (zb_nx (zb_di0 N A B M O (-1)) (zb_D N A B M O (-1)) b (zb_wp (zb_di0 N A B M O (-1)) (zb_D N A B M O (-1)) b a i))))) 187 9 (zb_n (i + 1))) ⟨hlt, zb_fr_set (zb_fr_set j2 rfl) rfl, fun x y hx hy => by rw [zb_set_ne (by omega), zb_set_ne (by omega)]; exact j3 x y hx hy, fun x y hx hy => by rw [zb_set_ne (by omega), zb_set_ne (by omega)]; exact j4 x y hx hy, zb_set_eq, fun c hc => ?_⟩ (by simp only; omega)
        · simp only at this; rw [ste] at this; exact this
        · rw [zb_set_ne (by omega)]
          by_cases v : c = i
          · subst v; rw [zb_set_eq]; unfold zb_lw; rw [ste]
          · simp only at hc; rw [zb_set_ne (by omega)]; exact j6 c (by omega)
  · refine zb_Wsome ⟨zb_fr_set (zb_fr_mono f1 (by decide)) rfl, ?_, fun w => absurd w q⟩
    rw [if_neg q]
end WAY
