/-- what a function of fewest miles must keep: 0 to itself, at most F, at most the lines' miles, the triangle -/
def zb_sub (n : Nat) (A B : Nat → Nat) (M : Nat → Int) (P : Nat → Prop) (F : Int) (d : Nat → Nat → Int) : Prop :=
  (∀ a, a < 16 → d a a = 0) ∧ (∀ a b, a < 16 → b < 16 → 0 ≤ d a b ∧ d a b ≤ F) ∧ (∀ l, l < n → P l → d (A l) (B l) ≤ M l ∧ d (B l) (A l) ≤ M l) ∧ (∀ a b c, a < 16 → b < 16 → c < 16 → d a c ≤ d a b + d b c)
/-- the greatest of them -/
def zb_gr (n : Nat) (A B : Nat → Nat) (M : Nat → Int) (P : Nat → Prop) (F : Int) (d : Nat → Nat → Int) : Prop :=
  zb_sub n A B M P F d ∧ ∀ e, zb_sub n A B M P F e → ∀ a b, a < 16 → b < 16 → e a b ≤ d a b
/-- lines run between stations, and have 1 to 200 miles -/
def zb_ln (n : Nat) (A B : Nat → Nat) (M : Nat → Int) : Prop := ∀ l, l < n → A l < 16 ∧ B l < 16 ∧ A l ≠ B l ∧ 1 ≤ M l ∧ M l ≤ 200
section RD
variable {n : Nat} {A B : Nat → Nat} {M : Nat → Int} {P : Nat → Prop} {F G : Int} {d e : Nat → Nat → Int}
theorem zb_gr_one (h1 : zb_gr n A B M P F d) (h2 : zb_gr n A B M P F e) {a b : Nat} (ha : a < 16) (hb : b < 16) : d a b = e a b :=
  Int.le_antisymm (h2.2 d h1.1 a b ha hb) (h1.2 e h2.1 a b ha hb)
theorem zb_gr_cap (hFG : F ≤ G) (hF : 200 ≤ F) (hln : zb_ln n A B M) (h1 : zb_gr n A B M P F d) (h2 : zb_gr n A B M P G e) {a b : Nat} (ha : a < 16) (hb : b < 16) : d a b = min (e a b) F := by
  have k1 : zb_sub n A B M P G d := ⟨h1.1.1, fun a b ha hb => ⟨(h1.1.2.1 a b ha hb).1, Int.le_trans (h1.1.2.1 a b ha hb).2 hFG⟩, h1.1.2.2⟩
  have k2 : zb_sub n A B M P F (fun a b => min (e a b) F) := by
    refine ⟨fun a ha => ?_, fun a b ha hb => ?_, fun l hl hp => ?_, fun a b c ha hb hc => ?_⟩
    · have := h2.1.1 a ha; simp only [this]; omega
    · have := h2.1.2.1 a b ha hb; show 0 ≤ min (e a b) F ∧ min (e a b) F ≤ F; omega
    · have := h2.1.2.2.1 l hl hp; have := hln l hl; show min (e (A l) (B l)) F ≤ M l ∧ min (e (B l) (A l)) F ≤ M l; omega
    · have := h2.1.2.2.2 a b c ha hb hc
      have := h2.1.2.1 a b ha hb
      have := h2.1.2.1 b c hb hc
      show min (e a c) F ≤ min (e a b) F + min (e b c) F
      omega
  have q1 := h2.2 d k1 a b ha hb
  have q2 := h1.2 _ k2 a b ha hb
  have q3 := h1.1.2.1 a b ha hb
  omega
theorem zb_gr_skip (hp : ¬ P n) (h : zb_gr n A B M P F d) : zb_gr (n + 1) A B M P F d := by
  have k : ∀ e, zb_sub n A B M P F e ↔ zb_sub (n + 1) A B M P F e := fun e =>
    ⟨fun q => ⟨q.1, q.2.1, fun l hl pl => q.2.2.1 l (by have : l ≠ n := fun t => hp (t ▸ pl); omega) pl, q.2.2.2⟩, fun q => ⟨q.1, q.2.1, fun l hl pl => q.2.2.1 l (by omega) pl, q.2.2.2⟩⟩
  exact ⟨(k d).1 h.1, fun e he => h.2 e ((k e).2 he)⟩
theorem zb_gr_zero (hF : 0 ≤ F) : zb_gr 0 A B M P F (fun a b => if a = b then 0 else F) := by
  refine ⟨⟨fun a _ => by simp, fun a b _ _ => by by_cases h : a = b <;> simp [h, hF], fun l hl => absurd hl (by omega), fun a b c _ _ _ => ?_⟩, fun e he a b ha hb => ?_⟩
  · by_cases h1 : a = b <;> by_cases h2 : b = c <;> by_cases h3 : a = c <;> simp [h1, h2, h3] <;> first | omega | (subst_vars; simp_all)
  · by_cases h : a = b
    · subst h; simp [he.1 a ha]
    · simp only [h, if_false]; exact (he.2.1 a b ha hb).2
/-- with one line more -/
def zb_ad (d : Nat → Nat → Int) (x y : Nat) (m : Int) (a b : Nat) : Int := min (d a b) (min (d a x + d y b) (d a y + d x b) + m)
theorem zb_ad_sub {x y : Nat} {m : Int} (hx : x < 16) (hy : y < 16) (hm : 1 ≤ m) (h0 : ∀ a, a < 16 → d a a = 0) (h1 : ∀ a b, a < 16 → b < 16 → 0 ≤ d a b ∧ d a b ≤ F) (h3 : ∀ a b c, a < 16 → b < 16 → c < 16 → d a c ≤ d a b + d b c) :
    (∀ a, a < 16 → zb_ad d x y m a a = 0) ∧ (∀ a b, a < 16 → b < 16 → 0 ≤ zb_ad d x y m a b ∧ zb_ad d x y m a b ≤ F) ∧ (zb_ad d x y m x y ≤ m ∧ zb_ad d x y m y x ≤ m) ∧ (∀ a b c, a < 16 → b < 16 → c < 16 → zb_ad d x y m a c ≤ zb_ad d x y m a b + zb_ad d x y m b c) := by
  refine ⟨fun a ha => ?_, fun a b ha hb => ?_, ⟨?_, ?_⟩, fun a b c ha hb hc => ?_⟩
  · have := h0 a ha; have := h1 a x ha hx; have := h1 y a hy ha; have := h1 a y ha hy; have := h1 x a hx ha
    unfold zb_ad; omega
  · have := h1 a b ha hb; have := h1 a x ha hx; have := h1 y b hy hb; have := h1 a y ha hy; have := h1 x b hx hb
    unfold zb_ad; omega
  · have := h0 x hx; have := h0 y hy; unfold zb_ad; omega
  · have := h0 x hx; have := h0 y hy; unfold zb_ad; omega
  · have t1 := h3 a b c ha hb hc
    have t2 := h3 y b c hy hb hc
    have t3 := h3 x b c hx hb hc
    have t4 := h3 a b x ha hb hx
    have t5 := h3 a b y ha hb hy
    have t6 := h3 a x c ha hx hc
    have t7 := h3 a y c ha hy hc
    have p1 := h1 b x hb hx
    have p2 := h1 b y hb hy
    have p3 := h1 x b hx hb
    have p4 := h1 y b hy hb
    unfold zb_ad; omega
theorem zb_gr_add (hp : P n) (hln : zb_ln (n + 1) A B M) (h : zb_gr n A B M P F d) : zb_gr (n + 1) A B M P F (zb_ad d (A n) (B n) (M n)) := by
  obtain ⟨hx, hy, hxy, hm, hm2⟩ := hln n (by omega)
  obtain ⟨k1, k2, k3, k4⟩ := zb_ad_sub hx hy hm h.1.1 h.1.2.1 h.1.2.2.2
  refine ⟨⟨k1, k2, fun l hl pl => ?_, k4⟩, fun e he a b ha hb => ?_⟩
  · by_cases q : l = n
    · subst q; exact k3
    · have := h.1.2.2.1 l (by omega) pl
      unfold zb_ad; omega
  · have he' : zb_sub n A B M P F e := ⟨he.1, he.2.1, fun l hl pl => he.2.2.1 l (by omega) pl, he.2.2.2⟩
    have q1 := h.2 e he' a b ha hb
    have q2 := h.2 e he' a (A n) ha hx
    have q3 := h.2 e he' (B n) b hy hb
    have q4 := h.2 e he' a (B n) ha hy
    have q5 := h.2 e he' (A n) b hx hb
    have r := he.2.2.1 n (by omega) hp
    have r1 := he.2.2.2 a (A n) b ha hx hb
    have r2 := he.2.2.2 (A n) (B n) b hx hy hb
    have r3 := he.2.2.2 a (B n) b ha hy hb
    have r4 := he.2.2.2 (B n) (A n) b hy hx hb
    unfold zb_ad; omega
/-- the last step of a shortest way -/
theorem zb_gr_tight (hln : zb_ln n A B M) (h : zb_gr n A B M P F d) {x b : Nat} (hx : x < 16) (hb : b < 16) (hxb : x ≠ b) (hlt : d x b < F) :
    ∃ l, l < n ∧ P l ∧ ((A l = x ∧ d x b = M l + d (B l) b) ∨ (B l = x ∧ d x b = M l + d (A l) b)) := by
  refine Classical.byContradiction fun hno => ?_
  have hno' : ∀ l, l < n → P l → (A l = x → d x b < M l + d (B l) b) ∧ (B l = x → d x b < M l + d (A l) b) := by
    intro l hl pl
    have hL := hln l hl
    have hT := h.1.2.2.1 l hl pl
    have t1 := h.1.2.2.2 (A l) (B l) b hL.1 hL.2.1 hb
    have t2 := h.1.2.2.2 (B l) (A l) b hL.2.1 hL.1 hb
    refine ⟨fun q => ?_, fun q => ?_⟩
    · have : ¬ (d x b = M l + d (B l) b) := fun t => hno ⟨l, hl, pl, Or.inl ⟨q, t⟩⟩
      rw [q] at t1 hT; omega
    · have : ¬ (d x b = M l + d (A l) b) := fun t => hno ⟨l, hl, pl, Or.inr ⟨q, t⟩⟩
      rw [q] at t2 hT; omega
  -- raise x by one
  have hsub : zb_sub n A B M P F (fun a c => max 0 ((if a = x then d x b + 1 else d a b) - (if c = x then d x b + 1 else d c b))) := by
    refine ⟨fun a _ => by dsimp only; omega, fun a c ha hc => ?_, fun l hl pl => ?_, fun a c e _ _ _ => by dsimp only; omega⟩
    · have p1 := h.1.2.1 a b ha hb
      have p2 := h.1.2.1 c b hc hb
      have p3 := h.1.2.1 x b hx hb
      by_cases q1 : a = x <;> by_cases q2 : c = x <;> simp only [q1, q2, if_true, if_false] <;> omega
    · have hL := hln l hl
      have hT := h.1.2.2.1 l hl pl
      have t1 := h.1.2.2.2 (A l) (B l) b hL.1 hL.2.1 hb
      have t2 := h.1.2.2.2 (B l) (A l) b hL.2.1 hL.1 hb
      have hN := hno' l hl pl
      by_cases q1 : A l = x
      · have q2 : ¬ B l = x := fun t => hL.2.2.1 (q1.trans t.symm)
        have := hN.1 q1
        rw [q1] at t1 t2 hT ⊢
        simp only [q2, if_true, if_false]
        omega
      · by_cases q2 : B l = x
        · have := hN.2 q2
          rw [q2] at t1 t2 hT ⊢
          simp only [q1, if_true, if_false]
          omega
        · simp only [q1, q2, if_false]
          omega
  have := h.2 _ hsub x b hx hb
  have p := h.1.1 b hb
  simp only [if_true, if_neg (Ne.symm hxb), p] at this
  omega
/-- how many stations are nearer to b than v -/
def zb_nr (d : Nat → Nat → Int) (b : Nat) (v : Int) : Nat → Nat
  | 0 => 0
  | k + 1 => zb_nr d b v k + (if d k b < v then 1 else 0)
theorem zb_nr_le {b : Nat} {v : Int} (k : Nat) : zb_nr d b v k ≤ k := by
  induction k with
  | zero => simp [zb_nr]
  | succ k ih => simp only [zb_nr]; split <;> omega
theorem zb_nr_mono {b : Nat} {v w : Int} (h : v ≤ w) (k : Nat) : zb_nr d b v k ≤ zb_nr d b w k := by
  induction k with
  | zero => simp [zb_nr]
  | succ k ih => simp only [zb_nr]; split <;> split <;> omega
theorem zb_nr_lt {b c : Nat} {v w : Int} (h : v ≤ w) (h1 : ¬ d c b < v) (h2 : d c b < w) (k : Nat) (hk : c < k) : zb_nr d b v k + 1 ≤ zb_nr d b w k := by
  induction k with
  | zero => omega
  | succ k ih =>
    simp only [zb_nr]
    by_cases q : c = k
    · subst q; have := zb_nr_mono (d := d) (b := b) h c; simp only [if_neg h1, if_pos h2]; omega
    · have := ih (by omega); split <;> split <;> omega
theorem zb_nr_15 {a b : Nat} (ha : a < 16) : zb_nr d b (d a b) 16 ≤ 15 := by
  have := zb_nr_lt (d := d) (b := b) (c := a) (v := d a b) (w := d a b + 1) (by omega) (by omega) (by omega) 16 ha
  have := zb_nr_le (d := d) (b := b) (v := d a b + 1) 16
  omega
theorem zb_gr_bound (hln : zb_ln n A B M) (h : zb_gr n A B M P F d) {b : Nat} (hb : b < 16) : ∀ (v : Nat) (x : Nat), x < 16 → d x b < F → (d x b).toNat = v → d x b ≤ 200 * (zb_nr d b (d x b) 16 : Nat) := by
  intro v
  induction v using Nat.strongRecOn with
  | ind v ih =>
    intro x hx hlt hv
    by_cases hxb : x = b
    · subst hxb; have := h.1.1 x hx; omega
    · obtain ⟨l, hl, _, q⟩ := zb_gr_tight hln h hx hb hxb hlt
      have hL := hln l hl
      have go : ∀ c, c < 16 → d x b = M l + d c b → d x b ≤ 200 * (zb_nr d b (d x b) 16 : Nat) := by
        intro c hc q
        have p := h.1.2.1 c b hc hb
        have r := ih (d c b).toNat (by omega) c hc (by omega) rfl
        have t := zb_nr_lt (d := d) (b := b) (c := c) (v := d c b) (w := d x b) (by omega) (by omega) (by omega) 16 hc
        omega
      rcases q with ⟨_, q⟩ | ⟨_, q⟩
      · exact go _ hL.2.1 q
      · exact go _ hL.1 q
theorem zb_gr_3000 (hln : zb_ln n A B M) (h : zb_gr n A B M P F d) {x b : Nat} (hx : x < 16) (hb : b < 16) (hlt : d x b < F) : d x b ≤ 3000 := by
  have := zb_gr_bound hln h hb _ x hx hlt rfl
  have := zb_nr_15 (d := d) (a := x) (b := b) hx
  omega
/-- direct miles -/
def zb_di (A B : Nat → Nat) (M : Nat → Int) (P : Nat → Bool) (F : Int) : Nat → Nat → Nat → Int
  | 0 => fun a b => if a = b then 0 else F
  | n + 1 => fun a b => if P n = true ∧ ((A n = a ∧ B n = b) ∨ (A n = b ∧ B n = a)) ∧ M n < zb_di A B M P F n a b then M n else zb_di A B M P F n a b
theorem zb_di_s {p : Nat → Bool} {k a b : Nat} : zb_di A B M p F (k + 1) a b = if p k = true ∧ ((A k = a ∧ B k = b) ∨ (A k = b ∧ B k = a)) ∧ M k < zb_di A B M p F k a b then M k else zb_di A B M p F k a b := rfl
theorem zb_di_comm {p : Nat → Bool} (k : Nat) (a b : Nat) : zb_di A B M p F k a b = zb_di A B M p F k b a := by
  induction k with
  | zero => simp only [zb_di]; by_cases h : a = b <;> simp [h, eq_comm]
  | succ k ih => simp only [zb_di, ih, or_comm (a := A k = a ∧ B k = b)]
theorem zb_di_ok {p : Nat → Bool} (hF : 200 ≤ F) (k : Nat) (hln : zb_ln k A B M) : (∀ a, zb_di A B M p F k a a = 0) ∧ (∀ a b, 0 ≤ zb_di A B M p F k a b ∧ zb_di A B M p F k a b ≤ F) ∧ (∀ a b, a ≠ b → 1 ≤ zb_di A B M p F k a b) ∧ (∀ l, l < k → p l = true → zb_di A B M p F k (A l) (B l) ≤ M l) ∧ (∀ e, zb_sub k A B M (fun l => p l = true) F e → ∀ a b, a < 16 → b < 16 → e a b ≤ zb_di A B M p F k a b) := by
  induction k with
  | zero =>
    refine ⟨fun a => by simp [zb_di], fun a b => by simp only [zb_di]; split <;> omega, fun a b h => by simp only [zb_di, if_neg h]; omega, fun l hl => absurd hl (by omega), fun e he a b ha hb => ?_⟩
    simp only [zb_di]; split
    · next h => subst h; rw [he.1 a ha]; exact Int.le_refl _
    · exact (he.2.1 a b ha hb).2
  | succ k ih =>
    obtain ⟨i1, i2, i3, i4, i5⟩ := ih (fun l hl => hln l (by omega))
    have hk := hln k (by omega)
    refine ⟨fun a => ?_, fun a b => ?_, fun a b hab => ?_, fun l hl pl => ?_, fun e he a b ha hb => ?_⟩
    · simp only [zb_di, i1]; rw [if_neg]; omega
    · have := i2 a b; simp only [zb_di]; split <;> omega
    · have := i3 a b hab; simp only [zb_di]; split <;> omega
    · by_cases q : l = k
      · subst q; simp only [zb_di, pl, and_self, true_or, true_and]; split <;> omega
      · have := i4 l (by omega) pl; simp only [zb_di]; split <;> omega
    · have := i5 e ⟨he.1, he.2.1, fun l hl pl => he.2.2.1 l (by omega) pl, he.2.2.2⟩ a b ha hb
      have r := he.2.2.1 k (by omega)
      simp only [zb_di]; split
      · next h =>
          obtain ⟨h1, h2, h3⟩ := h
          have r := r h1
          rcases h2 with ⟨rfl, rfl⟩ | ⟨rfl, rfl⟩
          · exact r.1
          · exact r.2
      · exact this
/-- one station between: Floyd's step -/
def zb_fw (d : Nat → Nat → Int) : Nat → Nat → Nat → Int
  | 0 => d
  | m + 1 => fun a b => min (zb_fw d m a b) (zb_fw d m a m + zb_fw d m m b)
theorem zb_fw_ok (h0 : ∀ a, a < 16 → d a a = 0) (h1 : ∀ a b, a < 16 → b < 16 → 0 ≤ d a b ∧ d a b ≤ F) (m : Nat) (hm : m ≤ 16) :
    (∀ a, a < 16 → zb_fw d m a a = 0) ∧ (∀ a b, a < 16 → b < 16 → 0 ≤ zb_fw d m a b ∧ zb_fw d m a b ≤ d a b) ∧ (∀ a b c, a < 16 → b < 16 → c < m → zb_fw d m a b ≤ zb_fw d m a c + zb_fw d m c b) := by
  induction m with
  | zero => exact ⟨h0, fun a b ha hb => ⟨(h1 a b ha hb).1, Int.le_refl _⟩, fun a b c _ _ hc => absurd hc (by omega)⟩
  | succ m ih =>
    obtain ⟨i1, i2, i3⟩ := ih (by omega)
    have hm16 : m < 16 := by omega
    refine ⟨fun a ha => ?_, fun a b ha hb => ?_, fun a b c ha hb hc => ?_⟩
    · have := i1 a ha; have := i2 a m ha hm16; have := i2 m a hm16 ha; simp only [zb_fw]; omega
    · have := i2 a b ha hb; have := i2 a m ha hm16; have := i2 m b hm16 hb; simp only [zb_fw]; omega
    · have z := i1 m hm16
      have p1 := i2 a m ha hm16
      have p2 := i2 m b hm16 hb
      by_cases q : c = m
      · subst q; simp only [zb_fw, z]; omega
      · have hc16 : c < 16 := by omega
        have t1 := i3 a b c ha hb (by omega)
        have t2 := i3 m b c hm16 hb (by omega)
        have t3 := i3 a m c ha hm16 (by omega)
        have p3 := i2 c m hc16 hm16
        have p4 := i2 m c hm16 hc16
        simp only [zb_fw]; omega
theorem zb_fw_low (hs : zb_sub n A B M P F e) (h : ∀ a b, a < 16 → b < 16 → e a b ≤ d a b) (m : Nat) (hm : m ≤ 16) : ∀ a b, a < 16 → b < 16 → e a b ≤ zb_fw d m a b := by
  induction m with
  | zero => exact h
  | succ m ih =>
    intro a b ha hb
    have := ih (by omega) a b ha hb
    have := ih (by omega) a m ha (by omega)
    have := ih (by omega) m b (by omega) hb
    have := hs.2.2.2 a m b ha (by omega) hb
    simp only [zb_fw]; omega
/-- the model's fewest miles are the greatest -/
theorem zb_fw_gr {p : Nat → Bool} (hF : 200 ≤ F) (hln : zb_ln n A B M) : zb_gr n A B M (fun l => p l = true) F (zb_fw (zb_di A B M p F n) 16) := by
  obtain ⟨i1, i2, _, i4, i5⟩ := zb_di_ok (p := p) hF n hln
  obtain ⟨k1, k2, k3⟩ := zb_fw_ok (F := F) (d := zb_di A B M p F n) (fun a _ => i1 a) (fun a b _ _ => i2 a b) 16 (by omega)
  refine ⟨⟨k1, fun a b ha hb => ⟨(k2 a b ha hb).1, Int.le_trans (k2 a b ha hb).2 (i2 a b).2⟩, fun l hl pl => ?_, fun a b c ha hb hc => k3 a c b ha hc hb⟩, fun e he a b ha hb => ?_⟩
  · have hL := hln l hl
    have q := i4 l hl pl
    have q1 := (k2 _ _ hL.1 hL.2.1).2
    have q2 := (k2 _ _ hL.2.1 hL.1).2
    rw [zb_di_comm] at q2
    exact ⟨Int.le_trans q1 q, Int.le_trans q2 q⟩
  · exact zb_fw_low he (fun a b ha hb => i5 e he a b ha hb) 16 (by omega) a b ha hb
/-- the line for two stations -/
def zb_bs (A B : Nat → Nat) (M : Nat → Int) : Nat → Nat → Nat → Int
  | 0 => fun _ _ => -1
  | n + 1 => fun a b => if ((A n = a ∧ B n = b) ∨ (A n = b ∧ B n = a)) ∧ (zb_bs A B M n a b < 0 ∨ M n < M (zb_bs A B M n a b).toNat) then (n : Int) else zb_bs A B M n a b
theorem zb_bs_s {k a b : Nat} : zb_bs A B M (k + 1) a b = if ((A k = a ∧ B k = b) ∨ (A k = b ∧ B k = a)) ∧ (zb_bs A B M k a b < 0 ∨ M k < M (zb_bs A B M k a b).toNat) then (k : Int) else zb_bs A B M k a b := rfl
theorem zb_bs_comm (k : Nat) (a b : Nat) : zb_bs A B M k a b = zb_bs A B M k b a := by
  induction k with
  | zero => rfl
  | succ k ih => simp only [zb_bs, ih, or_comm (a := A k = a ∧ B k = b)]
theorem zb_bs_ok (hF : 200 < F) (k : Nat) (hln : zb_ln k A B M) (a b : Nat) (hab : a ≠ b) : (-1 ≤ zb_bs A B M k a b ∧ zb_bs A B M k a b < k) ∧ (zb_di A B M (fun _ => true) F k a b = if zb_bs A B M k a b < 0 then F else M (zb_bs A B M k a b).toNat) ∧ (0 ≤ zb_bs A B M k a b → M (zb_bs A B M k a b).toNat ≤ 200 ∧ ((A (zb_bs A B M k a b).toNat = a ∧ B (zb_bs A B M k a b).toNat = b) ∨ (A (zb_bs A B M k a b).toNat = b ∧ B (zb_bs A B M k a b).toNat = a))) := by
  induction k with
  | zero => exact ⟨⟨by simp [zb_bs], by simp [zb_bs]⟩, by simp [zb_bs, zb_di, hab], fun h => absurd h (by simp [zb_bs])⟩
  | succ k ih =>
    obtain ⟨i1, i2, i3⟩ := ih (fun l hl => hln l (by omega))
    have hk := hln k (by omega)
    by_cases q : ((A k = a ∧ B k = b) ∨ (A k = b ∧ B k = a)) ∧ (zb_bs A B M k a b < 0 ∨ M k < M (zb_bs A B M k a b).toNat)
    · have e1 : zb_bs A B M (k + 1) a b = (k : Int) := by simp only [zb_bs]; rw [if_pos q]
      rw [e1]
      refine ⟨by omega, ?_, fun _ => ⟨by simpa using hk.2.2.2.2, by simpa using q.1⟩⟩
      have hlt : M k < zb_di A B M (fun _ => true) F k a b := by
        rw [i2]; split
        · omega
        · rcases q.2 with t | t
          · omega
          · exact t
      simp only [zb_di]; rw [if_pos ⟨trivial, q.1, hlt⟩, if_neg (by omega)]; simp
    · have e1 : zb_bs A B M (k + 1) a b = zb_bs A B M k a b := by simp only [zb_bs]; rw [if_neg q]
      rw [e1]
      refine ⟨by omega, ?_, i3⟩
      simp only [zb_di]; rw [if_neg, i2]
      intro h
      refine q ⟨h.2.1, ?_⟩
      have := h.2.2
      rw [i2] at this
      split at this
      · next t => exact Or.inl t
      · exact Or.inr this
end RD
