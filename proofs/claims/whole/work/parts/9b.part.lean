/-! part -/
def zb_sm (f : Nat → Int) : Nat → Int
  | 0 => 0
  | k + 1 => zb_sm f k + f k
def zb_cnt (P : Nat → Bool) : Nat → Nat
  | 0 => 0
  | k + 1 => zb_cnt P k + (if P k = true then 1 else 0)
section SMS
variable {f g : Nat → Int} {P R : Nat → Bool} {t p : Int}
theorem zb_sm_mul (p : Int) (f : Nat → Int) : ∀ n, zb_sm (fun k => p * f k) n = p * zb_sm f n
  | 0 => (Int.mul_zero p).symm
  | n + 1 => by simp only [zb_sm]; rw [zb_sm_mul p f n, Int.mul_add]
theorem zb_sm_dm (t : Int) (f : Nat → Int) : ∀ n, zb_sm (fun k => f k % t) n + t * zb_sm (fun k => f k / t) n = zb_sm f n
  | 0 => by simp [zb_sm]
  | n + 1 => by
    simp only [zb_sm]
    have := zb_sm_dm t f n
    have e := Int.emod_add_mul_ediv (f n) t
    rw [Int.mul_add]
    omega
theorem zb_sm_pos : ∀ n, (∀ k, k < n → 0 ≤ f k) → 0 ≤ zb_sm f n ∧ ∀ k, k < n → f k ≤ zb_sm f n
  | 0, _ => ⟨Int.le_refl _, fun k hk => absurd hk (by omega)⟩
  | n + 1, h => by
    have ih := zb_sm_pos n (fun k hk => h k (by omega))
    have := h n (by omega)
    simp only [zb_sm]
    refine ⟨by omega, fun k hk => ?_⟩
    by_cases e : k = n
    · subst e; omega
    · have := ih.2 k (by omega); omega
theorem zb_sm_le {m : Int} : ∀ n, (∀ k, k < n → f k ≤ m) → zb_sm f n ≤ n * m
  | 0, _ => by simp [zb_sm]
  | n + 1, h => by
    have ih := zb_sm_le n (fun k hk => h k (by omega))
    have := h n (by omega)
    simp only [zb_sm]
    rw [Int.natCast_succ, Int.add_mul]
    omega
theorem zb_sm_cnt {m : Int} : ∀ n, (∀ k, k < n → f k ≤ m ∧ (P k = false → f k ≤ 0)) → zb_sm f n ≤ zb_cnt P n * m
  | 0, _ => by simp [zb_sm, zb_cnt]
  | n + 1, h => by
    have ih := zb_sm_cnt n (fun k hk => h k (by omega))
    have a := h n (by omega)
    simp only [zb_sm, zb_cnt]
    cases e : P n with
    | true =>
      rw [if_pos rfl, Int.natCast_add, Int.add_mul]
      have : ((1 : Nat) : Int) * m = m := Int.one_mul m
      rw [this]
      omega
    | false =>
      rw [if_neg (by decide), Nat.add_zero]
      have := a.2 e
      omega
theorem zb_cnt_le : ∀ n, (∀ k, k < n → P k = true → R k = true) → zb_cnt P n ≤ zb_cnt R n
  | 0, _ => Nat.le_refl _
  | n + 1, h => by
    have ih := zb_cnt_le n (fun k hk => h k (by omega))
    simp only [zb_cnt]
    cases e : P n with
    | true => rw [h n (by omega) e]; omega
    | false => simp; omega
theorem zb_cnt_lt {m : Nat} (hm1 : R m = true) (hm2 : P m = false) : ∀ n, m < n → (∀ k, k < n → P k = true → R k = true) → zb_cnt P n < zb_cnt R n
  | 0, h, _ => absurd h (by omega)
  | n + 1, h, hs => by
    simp only [zb_cnt]
    by_cases e : m = n
    · subst e
      have := zb_cnt_le m (fun k hk => hs k (by omega))
      rw [hm1, hm2]; simp; omega
    · have ih := zb_cnt_lt hm1 hm2 n (by omega) (fun k hk => hs k (by omega))
      cases q : P n with
      | true => rw [hs n (by omega) q]; omega
      | false => simp; omega
theorem zb_cnt_s1 {n : Nat} (h : P n = true) : zb_cnt P (n + 1) = zb_cnt P n + 1 := by simp only [zb_cnt]; rw [if_pos h]
theorem zb_cnt_s0 {n : Nat} (h : P n = false) : zb_cnt P (n + 1) = zb_cnt P n := by simp only [zb_cnt]; rw [if_neg (by rw [h]; decide)]; rfl
theorem zb_cnt_ins {m : Nat} (hm : P m = false) : ∀ n, zb_cnt (fun k => P k || decide (k = m)) n = zb_cnt P n + (if m < n then 1 else 0)
  | 0 => rfl
  | n + 1 => by
    have ih := zb_cnt_ins hm n
    by_cases e : n = m
    · subst e
      rw [if_neg (by omega)] at ih
      rw [zb_cnt_s1 (P := fun k => P k || decide (k = n)) (by simp), zb_cnt_s0 hm, ih, if_pos (by omega)]
    · cases q : P n with
      | true =>
        rw [zb_cnt_s1 (P := fun k => P k || decide (k = m)) (by simp [q]), zb_cnt_s1 q, ih]
        by_cases g : m < n
        · rw [if_pos g, if_pos (by omega)]
        · rw [if_neg g, if_neg (by omega)]
      | false =>
        rw [zb_cnt_s0 (P := fun k => P k || decide (k = m)) (by simp [q, e]), zb_cnt_s0 q, ih]
        by_cases g : m < n
        · rw [if_pos g, if_pos (by omega)]
        · rw [if_neg g, if_neg (by omega)]
theorem zb_cnt_n : ∀ n, zb_cnt P n ≤ n
  | 0 => Nat.le_refl _
  | n + 1 => by
    have := zb_cnt_n n
    simp only [zb_cnt]
    split <;> omega
end SMS
/-- weights of owners: by miles, or alike -/
def zb_wi (bm : Bool) (ow : Nat → Nat) (mi : Nat → Int) (k : Nat) : Nat → Int
  | 0 => 0
  | i + 1 => if ow i = k then (if bm = true then zb_wi bm ow mi k i + mi i else 1) else zb_wi bm ow mi k i
section WGT
variable {bm : Bool} {ow : Nat → Nat} {mi : Nat → Int} {n : Nat}
theorem zb_wi_rg (h : ∀ i, i < n → 1 ≤ mi i ∧ mi i ≤ 200) (k : Nat) : ∀ i, i ≤ n → 0 ≤ zb_wi bm ow mi k i ∧ zb_wi bm ow mi k i ≤ 200 * i
  | 0, _ => ⟨Int.le_refl _, Int.le_refl _⟩
  | i + 1, hi => by
    have ih := zb_wi_rg h k i (by omega)
    have m := h i (by omega)
    simp only [zb_wi]
    by_cases q : ow i = k
    · rw [if_pos q]
      cases bm with
      | true => rw [if_pos rfl]; omega
      | false => rw [if_neg (by decide)]; omega
    · rw [if_neg q]; omega
theorem zb_wi_alike (h : ∀ i, i < n → 1 ≤ mi i ∧ mi i ≤ 200) (k : Nat) : ∀ i, i ≤ n → zb_wi false ow mi k i = if 0 < zb_wi true ow mi k i then 1 else 0
  | 0, _ => rfl
  | i + 1, hi => by
    have ih := zb_wi_alike h k i (by omega)
    have r := zb_wi_rg (bm := true) (ow := ow) h k i (by omega)
    have m := h i (by omega)
    simp only [zb_wi]
    by_cases q : ow i = k
    · rw [if_pos q, if_pos q, if_neg (by decide), if_pos trivial, if_pos (by omega)]
    · rw [if_neg q, if_neg q]; exact ih
theorem zb_wi_last (h : ∀ i, i < n → 1 ≤ mi i ∧ mi i ≤ 200) (hn : 0 < n) : 0 < zb_wi bm ow mi (ow (n - 1)) n := by
  obtain ⟨i, rfl⟩ : ∃ i, n = i + 1 := ⟨n - 1, by omega⟩
  have r := zb_wi_rg (bm := bm) (ow := ow) h (ow i) i (by omega)
  have m := h i (by omega)
  simp only [zb_wi, Nat.add_sub_cancel]
  rw [if_pos trivial]
  cases bm with
  | true => rw [if_pos rfl]; omega
  | false => rw [if_neg (by decide)]; omega
end WGT
/-- who comes ahead of whom for what is left -/
def zb_bt1 (rs : Nat → Int) (k o : Nat) : Bool := decide (rs o < rs k ∨ (rs k = rs o ∧ k < o))
def zb_pf (p : Int) (w : Nat → Int) (t : Int) (o : Nat) : Int := p * w o / t + (if (zb_cnt (fun k => zb_bt1 (fun k => p * w k % t) k o) 6 : Int) < p - zb_sm (fun k => p * w k / t) 6 then 1 else 0)
section PRT
variable {N K td Q T W Z : Nat} {A B O ZK : Nat → Nat} {M LO LD : Nat → Int} {LE : Nat → List zb_EF} {R TK WK : Nat → Nat → Int} {s : sv_S}
variable {x1 x2 x3 : Int32} {w : Nat → Int} {p t : Int} {o : Nat}
/-- sound weights -/
def zb_wk (p : Int) (w : Nat → Int) (t : Int) : Prop := 0 ≤ p ∧ p ≤ 9999 ∧ (∀ k, k < 6 → 0 ≤ w k ∧ w k ≤ 3000) ∧ t = zb_sm w 6 ∧ 0 < t
theorem zb_wk_rg (h : zb_wk p w t) : t ≤ 18000 ∧ (∀ k, k < 6 → 0 ≤ p * w k ∧ p * w k ≤ 29997000 ∧ 0 ≤ p * w k / t ∧ p * w k / t ≤ 29997000 ∧ 0 ≤ p * w k % t ∧ p * w k % t < t) ∧ zb_sm (fun k => p * w k % t) 6 = (p - zb_sm (fun k => p * w k / t) 6) * t ∧ 0 ≤ p - zb_sm (fun k => p * w k / t) 6 ∧ p - zb_sm (fun k => p * w k / t) 6 < 6 := by
  obtain ⟨p0, p9, hw, ht, t0⟩ := h
  have t18 : t ≤ 18000 := by
    have := zb_sm_le (f := w) (m := 3000) 6 (fun k hk => (hw k hk).2)
    omega
  have each : ∀ k, k < 6 → 0 ≤ p * w k ∧ p * w k ≤ 29997000 ∧ 0 ≤ p * w k / t ∧ p * w k / t ≤ 29997000 ∧ 0 ≤ p * w k % t ∧ p * w k % t < t := by
    intro k hk
    have m := zb_mulr (x := 9999) (y := 3000) p0 p9 (hw k hk).1 (hw k hk).2
    have m2 : p * w k ≤ 29997000 := by omega
    exact ⟨m.1, m2, Int.ediv_nonneg m.1 (by omega), Int.le_trans (Int.ediv_le_self _ m.1) m2, Int.emod_nonneg _ (by omega), Int.emod_lt_of_pos _ t0⟩
  have dm := zb_sm_dm t (fun k => p * w k) 6
  rw [zb_sm_mul p w 6, ← ht] at dm
  have eq : zb_sm (fun k => p * w k % t) 6 = (p - zb_sm (fun k => p * w k / t) 6) * t := by
    rw [Int.sub_mul, Int.mul_comm (zb_sm (fun k => p * w k / t) 6) t]; omega
  have s0 := (zb_sm_pos (f := fun k => p * w k % t) 6 (fun k hk => (each k hk).2.2.2.2.1)).1
  have s6 := zb_sm_le (f := fun k => p * w k % t) (m := t - 1) 6 (fun k hk => by have := (each k hk).2.2.2.2.2; omega)
  refine ⟨t18, each, eq, ?_, ?_⟩
  · refine Int.not_lt.mp (fun z => ?_)
    have : (p - zb_sm (fun k => p * w k / t) 6) * t < 0 := Int.mul_neg_of_neg_of_pos z t0
    omega
  · refine Int.not_le.mp (fun z => ?_)
    have : 6 * t ≤ (p - zb_sm (fun k => p * w k / t) 6) * t := Int.mul_le_mul_of_nonneg_right z (by omega)
    have e6 : ((6 : Nat) : Int) * (t - 1) = 6 * t - 6 := by omega
    omega
/-- somebody is left who has a rest -/
theorem zb_left_ex (h : zb_wk p w t) {S : Nat → Bool} (hS : (zb_cnt S 6 : Int) < p - zb_sm (fun k => p * w k / t) 6) : ∃ k, k < 6 ∧ S k = false ∧ 0 < p * w k % t := by
  refine Classical.byContradiction fun no => ?_
  obtain ⟨_, each, eq, l0, l6⟩ := zb_wk_rg h
  have t0 := h.2.2.2.2
  have le := zb_sm_cnt (f := fun k => p * w k % t) (P := S) (m := t - 1) 6 (fun k hk => ⟨by have := (each k hk).2.2.2.2.2; omega, fun z => by
    refine Int.not_lt.mp (fun y => no ⟨k, hk, z, y⟩)⟩)
  rw [eq] at le
  generalize p - zb_sm (fun k => p * w k / t) 6 = L at *
  have a : (zb_cnt S 6 : Int) * (t - 1) ≤ (L - 1) * (t - 1) := Int.mul_le_mul_of_nonneg_right (by omega) (by omega)
  have b : (L - 1) * (t - 1) = L * t - L - t + 1 := by
    rw [Int.sub_mul, Int.mul_sub]; omega
  omega
/-- the model gives what is left -/
def zb_pI (p : Int) (w : Nat → Int) (t : Int) (S : Nat → Bool) (u : sv_S) : Prop := (∀ k, k < 6 → u.1 220 k = zb_i (p * w k / t + (if S k = true then 1 else 0))) ∧ (∀ k, k < 6 → u.1 221 k = zb_i (if S k = true then -1 else if w k = 0 then -1 else p * w k % t)) ∧ ∀ i k, i < 6 → k < 6 → S i = true → S k = false → zb_bt1 (fun k => p * w k % t) i k = true
theorem zb_p308 (h : zb_wk p w t) (ho : o < 6) (s0 : sv_S) : ∀ (m fu : Nat) (S : Nat → Bool) (u : sv_S), p - zb_sm (fun k => p * w k / t) 6 = (zb_cnt S 6 : Int) + m → m < fu → zb_fr [219, 220, 221] s0 u → zb_pI p w t S u → zb_W (F_Mo_part_b308 fu (zb_n o) (zb_i m) u) (fun r => r.1 = zb_i (zb_pf p w t o) ∧ zb_fr [219, 220, 221] s0 r.2) := by
  obtain ⟨t18, each, eq, l0, l6⟩ := zb_wk_rg h
  have t0 := h.2.2.2.2
  intro m
  induction m with
  | zero =>
    intro fu S u hm hf hu hI
    obtain ⟨f, rfl⟩ : ∃ f, fu = f + 1 := ⟨fu - 1, by omega⟩
    simp only [F_Mo_part_b308]
    refine zb_Wpos (by decide) (zb_Wpos (by rw [zb_ib_n (by omega)]; exact ho) (zb_Wsome ⟨?_, hu⟩))
    dsimp only
    rw [zb_n_ix (by omega), hI.1 o ho]
    unfold zb_pf
    congr 2
    cases e : S o with
    | true =>
      rw [if_pos rfl, if_pos]
      have : zb_cnt (fun k => zb_bt1 (fun k => p * w k % t) k o) 6 < zb_cnt S 6 := by
        refine zb_cnt_lt (m := o) e ?_ 6 ho (fun k hk z => ?_)
        · unfold zb_bt1; exact decide_eq_false (by omega)
        · cases q : S k with
          | true => rfl
          | false =>
            have y := hI.2.2 o k ho hk e q
            unfold zb_bt1 at y z
            rw [decide_eq_true_eq] at y z
            omega
      omega
    | false =>
      rw [if_neg (by decide), if_neg]
      have : zb_cnt S 6 ≤ zb_cnt (fun k => zb_bt1 (fun k => p * w k % t) k o) 6 := zb_cnt_le 6 (fun k hk z => hI.2.2 k o hk ho z e)
      omega
  | succ m ih =>
    intro fu S u hm hf hu hI
    obtain ⟨f, rfl⟩ : ∃ f, fu = f + 1 := ⟨fu - 1, by omega⟩
    simp only [F_Mo_part_b308]
    refine zb_Wneg (by rw [show (0 : Int32) = zb_i 0 from zb_n_i 0, zb_i_le (by omega) (by omega) (by omega) (by omega)]; omega) ?_
    -- what the row holds
    generalize hV : (fun k => if S k = true then (-1 : Int) else if w k = 0 then -1 else p * w k % t) = V at *
    have Vr : ∀ k, k < 6 → u.1 221 k = zb_i (V k) ∧ -1 ≤ V k ∧ V k ≤ 18000 := by
      intro k hk
      have e := each k hk
      refine ⟨by rw [hI.2.1 k hk, ← hV], ?_⟩
      rw [← hV]; dsimp only
      split
      · omega
      split <;> omega
    have six : ∀ j : Nat, j < 6 → sv_ib (zb_n j) 6 = true := fun j hj => by rw [zb_ib_n (by omega)]; exact hj
    -- the walk to the best
    have walk : ∀ (j n' : Nat) (b k : Nat), k + j = 6 → j < n' → b < k → (∀ i, i < k → V i < V b ∨ (V i = V b ∧ b ≤ i)) → zb_W (F_Mo_part_b319 (F_Mo_part_b308 f) n' (zb_n o) (zb_i ((m + 1 : Nat) : Int)) (zb_n b) (zb_n k) u) (fun r => r.1 = zb_i (zb_pf p w t o) ∧ zb_fr [219, 220, 221] s0 r.2) := by
      intro j
      induction j with
      | zero =>
        intro n' b k hk hn hb hbest
        obtain ⟨n', rfl⟩ : ∃ x, n' = x + 1 := ⟨n' - 1, by omega⟩
        simp only [F_Mo_part_b319]
        have hb6 : b < 6 := by omega
        refine zb_Wpos (by rw [show (6 : Int32) = zb_n 6 from rfl, zb_n_le (by omega) (by omega)]; omega) (zb_Wpos (six b hb6) (zb_Wpos (six b hb6) (zb_Wlet (zb_Wpos (six b hb6) (zb_Wlet (zb_Wlet ?_))))))
        rw [zb_n_ix (by omega), zb_m1, show (1 : Int32) = zb_i 1 from zb_n_i 1, hI.1 b hb6, zb_i_add, zb_i_add, show ((m + 1 : Nat) : Int) + -1 = (m : Int) by omega]
        -- the best has a rest
        obtain ⟨k0, k06, k0S, k0p⟩ := zb_left_ex (S := S) h (by omega)
        have wk0 : w k0 ≠ 0 := fun z => by rw [z, Int.mul_zero, Int.zero_emod] at k0p; omega
        have Vk0 : V k0 = p * w k0 % t := by rw [← hV]; dsimp only; rw [k0S, if_neg (by decide), if_neg wk0]
        have bb := hbest k0 (by omega)
        have Sb : S b = false := by
          cases e : S b with
          | false => rfl
          | true =>
            have : V b = -1 := by rw [← hV]; dsimp only; rw [e, if_pos rfl]
            omega
        have wb : w b ≠ 0 := fun z => by
          have : V b = -1 := by rw [← hV]; dsimp only; rw [Sb, if_neg (by decide), if_pos z]
          omega
        have Vb : V b = p * w b % t := by rw [← hV]; dsimp only; rw [Sb, if_neg (by decide), if_neg wb]
        have cn := zb_cnt_ins (P := S) Sb 6
        rw [if_pos hb6] at cn
        refine ih f (fun k => S k || decide (k = b)) _ (by rw [cn]; omega) (by omega) (zb_fr_set (zb_fr_set hu rfl) rfl) ⟨fun k hk6 => ?_, fun k hk6 => ?_, fun i k hi hk6 zi zk => ?_⟩
        · rw [zb_set_ne (by omega)]
          by_cases e : k = b
          · subst e
            rw [zb_set_eq, Sb]
            simp
          · rw [zb_set_ne (by omega), hI.1 k hk6]; simp [e]
        · by_cases e : k = b
          · subst e
            rw [zb_set_eq]
            simp
          · rw [zb_set_ne (by omega), zb_set_ne (by omega), hI.2.1 k hk6]; simp [e]
        · rw [Bool.or_eq_false_iff] at zk
          have kb : k ≠ b := of_decide_eq_false zk.2
          cases q : S i with
          | true => exact hI.2.2 i k hi hk6 q zk.1
          | false =>
            have zi' : (S i || decide (i = b)) = true := zi
            rw [q, Bool.false_or] at zi'
            have ib : i = b := of_decide_eq_true zi'
            subst ib
            unfold zb_bt1
            refine decide_eq_true ?_
            dsimp only
            have bk := hbest k (by omega)
            by_cases wz : w k = 0
            · have : p * w k % t = 0 := by rw [wz, Int.mul_zero, Int.zero_emod]
              omega
            · have Vk : V k = p * w k % t := by rw [← hV]; dsimp only; rw [zk.1, if_neg (by decide), if_neg wz]
              omega
      | succ j ihj =>
        intro n' b k hk hn hb hbest
        obtain ⟨n', rfl⟩ : ∃ x, n' = x + 1 := ⟨n' - 1, by omega⟩
        simp only [F_Mo_part_b319]
        have hk6 : k < 6 := by omega
        refine zb_Wneg (by rw [show (6 : Int32) = zb_n 6 from rfl, zb_n_le (by omega) (by omega)]; omega) (zb_Wpos (six k hk6) (zb_Wpos (six b (by omega)) ?_))
        obtain ⟨e1, e2, e3⟩ := Vr k hk6
        obtain ⟨g1, g2, g3⟩ := Vr b (by omega)
        rw [zb_n_ix (by omega), zb_n_ix (by omega), e1, g1]
        simp only [zb_i_le (show -2147483648 ≤ V k by omega) (show V k ≤ 2147483647 by omega) (show -2147483648 ≤ V b by omega) (show V b ≤ 2147483647 by omega)]
        unfold F_Mo_part_b347
        refine zb_Wif (fun q => zb_Wlet ?_) (fun q => zb_Wlet ?_)
        · rw [show zb_n k + (1 : Int32) = zb_n (k + 1) from zb_n_add k 1]
          refine ihj n' b (k + 1) (by omega) (by omega) (by omega) (fun i hi => ?_)
          by_cases e : i = k
          · subst e; omega
          · exact hbest i (by omega)
        · rw [show zb_n k + (1 : Int32) = zb_n (k + 1) from zb_n_add k 1]
          refine ihj n' k (k + 1) (by omega) (by omega) (by omega) (fun i hi => ?_)
          by_cases e : i = k
          · subst e; omega
          · have := hbest i (by omega); omega
    refine walk 5 ss_F 0 1 (by omega) (by unfold ss_F; omega) (by omega) (fun i hi => ?_)
    have z : i = 0 := by omega
    subst z; omega
theorem zb_p221 (h : zb_wk p w t) (ho : o < 6) (s0 : sv_S) {r : Nat} (hr : r < 60) {u0 : sv_S} (hu0 : zb_fr [219, 220, 221] s0 u0) (e9 : u0.1 209 r = zb_i p) (e219 : ∀ k, k < 6 → u0.1 219 k = zb_i (w k)) : zb_W (F_Mo_part_b221 ss_F (zb_n r) (zb_n o) (zb_i t) (zb_i p) (0 : Int32) u0) (fun q => q.1 = zb_i (zb_pf p w t o) ∧ zb_fr [219, 220, 221] s0 q.2) := by
  obtain ⟨t18, each, eq, l0, l6⟩ := zb_wk_rg h
  have t0 := h.2.2.2.2
  have lp := zb_for (Q := fun q => q.1 = zb_i (zb_pf p w t o) ∧ zb_fr [219, 220, 221] s0 q.2) (fun n k u => F_Mo_part_b221 n (zb_n r) (zb_n o) (zb_i t) (zb_i (p - zb_sm (fun k => p * w k / t) k)) (zb_n k) u) 6 (fun k u => zb_fr [220, 221] u0 u ∧ (∀ j, j < k → u.1 220 j = zb_i (p * w j / t)) ∧ ∀ j, j < k → u.1 221 j = zb_i (if w j = 0 then -1 else p * w j % t)) ?_ ?_ ss_F 0 u0 (by omega) (by unfold ss_F; omega) ⟨zb_fr_refl _ _, fun j hj => absurd hj (by omega), fun j hj => absurd hj (by omega)⟩
  · simp only [zb_sm, Int.sub_zero] at lp
    exact lp
  · intro n u hu
    simp only [F_Mo_part_b221]
    refine zb_Wpos (Int32.le_refl _) ?_
    have c0 : zb_cnt (fun _ => false) 6 = 0 := rfl
    have := zb_p308 h ho s0 (p - zb_sm (fun k => p * w k / t) 6).toNat ss_F (fun _ => false) u (by rw [c0]; omega) (by unfold ss_F; omega) (zb_fr_trans hu0 (zb_fr_mono hu.1 (by decide))) ⟨fun k hk => by rw [hu.2.1 k hk]; simp, fun k hk => by rw [hu.2.2 k hk]; simp, fun i k _ _ z => by cases z⟩
    rw [Int.toNat_of_nonneg l0] at this
    exact this
  · intro n k u hk hu ih
    obtain ⟨u1, u2, u3⟩ := hu
    have ik : sv_ib (zb_n k) 6 = true := by rw [zb_ib_n (by omega)]; exact hk
    have ir : sv_ib (zb_n r) 60 = true := by rw [zb_ib_n (by omega)]; exact hr
    have tz : ¬ zb_i t = 0 := by rw [show (0 : Int32) = zb_i 0 from zb_n_i 0, zb_i_eq (by omega) (by omega) (by omega) (by omega)]; omega
    obtain ⟨a1, a2, a3, a4, a5, a6⟩ := each k hk
    have w9 : u.1 209 r = zb_i p := (u1.1 209 r rfl).trans e9
    have w219 : u.1 219 k = zb_i (w k) := (u1.1 219 k rfl).trans (e219 k hk)
    have pd : zb_i p * zb_i (w k) / zb_i t = zb_i (p * w k / t) := by rw [zb_i_mul, zb_i_div (by omega) (by omega) (by omega) (by omega), Int.tdiv_eq_ediv_of_nonneg a1]
    have pm : zb_i p * zb_i (w k) - zb_i p * zb_i (w k) / zb_i t * zb_i t = zb_i (p * w k % t) := by
      rw [pd, zb_i_mul, zb_i_mul, zb_i_sub]
      congr 1
      have := Int.emod_add_mul_ediv (p * w k) t
      rw [Int.mul_comm (p * w k / t) t]; omega
    simp only [F_Mo_part_b221]
    refine zb_Wneg (by rw [show (6 : Int32) = zb_n 6 from rfl, zb_n_le (by omega) (by omega)]; omega) (zb_Wpos ir (zb_Wpos ik (zb_Wneg tz (zb_Wpos ik (zb_Wlet (zb_Wpos ik ?_))))))
    rw [zb_n_ix (by omega), zb_n_ix (by omega), w9, w219, pd, zb_set_ne (c := 220) (a := 219) (by omega), w219, zb_set_ne (c := 220) (a := 209) (by omega), w9, pm]
    have b289 : ∀ v : Int, v = (if w k = 0 then -1 else p * w k % t) → zb_W (F_Mo_part_b289 (F_Mo_part_b221 n) (zb_n r) (zb_n o) (zb_i t) (zb_i (p - zb_sm (fun k => p * w k / t) k)) (zb_n k) (zb_n k) (zb_i v) (ss_setI u 220 k (zb_i (p * w k / t)))) (fun q => q.1 = zb_i (zb_pf p w t o) ∧ zb_fr [219, 220, 221] s0 q.2) := by
      intro v hv
      unfold F_Mo_part_b289
      refine zb_Wpos ik (zb_Wlet (zb_Wpos ik (zb_Wlet (zb_Wlet ?_))))
      rw [zb_n_ix (by omega), zb_set_ne (c := 221) (a := 220) (by omega), zb_set_eq, zb_i_sub, show zb_n k + (1 : Int32) = zb_n (k + 1) from zb_n_add k 1, show p - zb_sm (fun k => p * w k / t) k - p * w k / t = p - zb_sm (fun k => p * w k / t) (k + 1) by simp only [zb_sm]; omega]
      refine ih _ ⟨zb_fr_set (zb_fr_set u1 rfl) rfl, fun j hj => ?_, fun j hj => ?_⟩
      · rw [zb_set_ne (by omega)]
        by_cases e : j = k
        · subst e; rw [zb_set_eq]
        · rw [zb_set_ne (by omega)]; exact u2 j (by omega)
      · by_cases e : j = k
        · subst e; rw [zb_set_eq, hv]
        · rw [zb_set_ne (by omega), zb_set_ne (by omega)]; exact u3 j (by omega)
    have wz : (zb_i (w k) = 0) = (w k = 0) := by rw [show (0 : Int32) = zb_i 0 from zb_n_i 0]; have := h.2.2.1 k hk; exact zb_i_eq (by omega) (by omega) (by omega) (by omega)
    simp only [wz]
    refine zb_Wif (fun q => ?_) (fun q => zb_Wpos ir (zb_Wpos ik (zb_Wneg tz (b289 _ (by rw [if_neg q])))))
    rw [zb_m1]
    exact b289 _ (by rw [if_pos q])
theorem zb_p185 (h : zb_wk p w t) (ho : o < 6) (s0 : sv_S) {r : Nat} (hr : r < 60) {u0 : sv_S} (hu0 : zb_fr [219, 220, 221] s0 u0) (e9 : u0.1 209 r = zb_i p) (e219 : ∀ k, k < 6 → u0.1 219 k = zb_i (w k)) : zb_W (F_Mo_part_b185 ss_F (zb_n r) (zb_n o) (0 : Int32) (0 : Int32) u0) (fun q => q.1 = zb_i (zb_pf p w t o) ∧ zb_fr [219, 220, 221] s0 q.2) := by
  refine zb_for (fun n k u => F_Mo_part_b185 n (zb_n r) (zb_n o) (zb_i (zb_sm w k)) (zb_n k) u) 6 (fun k u => u = u0) ?_ ?_ ss_F 0 u0 (by omega) (by unfold ss_F; omega) rfl
  · intro n u hu
    subst hu
    simp only [F_Mo_part_b185]
    refine zb_Wpos (Int32.le_refl _) (zb_Wpos (by rw [zb_ib_n (by omega)]; exact hr) (zb_Wlet ?_))
    rw [zb_n_ix (by omega), e9, ← h.2.2.2.1]
    exact zb_p221 h ho s0 hr hu0 e9 e219
  · intro n k u hk hu ih
    subst hu
    simp only [F_Mo_part_b185]
    refine zb_Wneg (by rw [show (6 : Int32) = zb_n 6 from rfl, zb_n_le (by omega) (by omega)]; omega) (zb_Wpos (by rw [zb_ib_n (by omega)]; exact hk) (zb_Wlet (zb_Wlet ?_)))
    rw [zb_n_ix (by omega), e219 k hk, zb_i_add, show zb_n k + (1 : Int32) = zb_n (k + 1) from zb_n_add k 1]
    exact ih u rfl
/-- lines on a way are lines -/
theorem zb_lw_rg (hL : zb_RL N A B M O) {a b i : Nat} (ha : a < 16) (hb : b < 16) (hlt : zb_D N A B M O (-1) a b < 100000) (hi : i < zb_wm (zb_di0 N A B M O (-1)) (zb_D N A B M O (-1)) b a) : 0 ≤ zb_lw N A B M O a b i ∧ zb_lw N A B M O a b i < N := by
  have rg := zb_bs_rg hL.2.1 (zb_wp (zb_di0 N A B M O (-1)) (zb_D N A B M O (-1)) b a i) (zb_wp (zb_di0 N A B M O (-1)) (zb_D N A B M O (-1)) b a (i + 1)) (k := N) (Nat.le_refl _)
  refine ⟨?_, rg.2⟩
  have wo := zb_wm_ok (O := O) hL.2.1 ha hb hlt
  have ne := wo.2.2 i hi
  have po := zb_wp_ok (O := O) hL.2.1 ha hb hlt i
  obtain ⟨n1, n2, _, _⟩ := zb_nx_ok (O := O) hL.2.1 po.1 hb ne po.2.1
  have en : zb_wp (zb_di0 N A B M O (-1)) (zb_D N A B M O (-1)) b a (i + 1) = zb_nx (zb_di0 N A B M O (-1)) (zb_D N A B M O (-1)) b (zb_wp (zb_di0 N A B M O (-1)) (zb_D N A B M O (-1)) b a i) := by
    simp only [zb_wp]; rw [if_neg ne]
  unfold zb_lw
  rw [en]
  unfold zb_st at n2
  rw [decide_eq_true_eq] at n2
  have bo := (zb_bs_ok (F := 100000) (by omega) N hL.2.1 (zb_wp (zb_di0 N A B M O (-1)) (zb_D N A B M O (-1)) b a i) (zb_nx (zb_di0 N A B M O (-1)) (zb_D N A B M O (-1)) b (zb_wp (zb_di0 N A B M O (-1)) (zb_D N A B M O (-1)) b a i)) (Ne.symm n2.1)).2.1
  refine Int.not_lt.mp (fun z => ?_)
  rw [if_pos z] at bo
  have e0 : zb_di0 N A B M O (-1) = zb_di A B M (fun _ => true) 100000 N := by unfold zb_di0; rw [zb_ow_any]
  have lt := n2.2.1
  rw [e0] at lt bo
  omega
end PRT
