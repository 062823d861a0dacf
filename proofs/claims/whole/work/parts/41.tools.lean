/-! half B: numbers, answers, frames -/
def sb_n (k : Nat) : Int32 := Int32.ofNat k
def sb_i (z : Int) : Int32 := Int32.ofInt z
def sb_r (z : Int) : Prop := -2147483648 ≤ z ∧ z ≤ 2147483647
theorem sb_n_i (k : Nat) : sb_n k = sb_i k := by unfold sb_n sb_i; exact (Int32.ofInt_eq_ofNat (n := k)).symm
theorem sb_lit (k : Nat) : (@OfNat.ofNat Int32 k _) = sb_n k := rfl
theorem sb_m1 : (-1 : Int32) = sb_i (-1) := by decide +kernel
theorem sb_m2 : (-2 : Int32) = sb_i (-2) := by decide +kernel
theorem sb_m3 : (-3 : Int32) = sb_i (-3) := by decide +kernel
theorem sb_m4 : (-4 : Int32) = sb_i (-4) := by decide +kernel
theorem sb_m5 : (-5 : Int32) = sb_i (-5) := by decide +kernel
theorem sb_i_of (x : Int32) : x = sb_i x.toInt := (Int32.ofInt_toInt x).symm
theorem sb_ti {z : Int} (h1 : -2147483648 ≤ z) (h2 : z ≤ 2147483647) : (sb_i z).toInt = z := Int32.toInt_ofInt_of_le (by omega) (by omega)
theorem sb_tn {k : Nat} (h : k ≤ 2147483647) : (sb_n k).toInt = k := by rw [sb_n_i]; exact sb_ti (by omega) (by omega)
theorem sb_n_ix {k : Nat} (h : k ≤ 2147483647) : (sb_n k).toNatClampNeg = k := by show (sb_n k).toInt.toNat = k; rw [sb_tn h]; rfl
theorem sb_i_ix {z : Int} (h1 : -2147483648 ≤ z) (h2 : z ≤ 2147483647) : (sb_i z).toNatClampNeg = z.toNat := by show (sb_i z).toInt.toNat = _; rw [sb_ti h1 h2]
theorem sb_n_add (a b : Nat) : sb_n a + sb_n b = sb_n (a + b) := (Int32.ofNat_add a b).symm
theorem sb_n_mul (a b : Nat) : sb_n a * sb_n b = sb_n (a * b) := (Int32.ofNat_mul a b).symm
theorem sb_i_add (a b : Int) : sb_i a + sb_i b = sb_i (a + b) := (Int32.ofInt_add a b).symm
theorem sb_i_sub (a b : Int) : sb_i a - sb_i b = sb_i (a - b) := (Int32.ofInt_sub a b).symm
theorem sb_i_mul (a b : Int) : sb_i a * sb_i b = sb_i (a * b) := (Int32.ofInt_mul a b).symm
theorem sb_i_neg (a : Int) : - sb_i a = sb_i (- a) := (Int32.ofInt_neg a).symm
theorem sb_n_sub {a b : Nat} (h : b ≤ a) : sb_n a - sb_n b = sb_n (a - b) := by rw [sb_n_i, sb_n_i, sb_n_i, sb_i_sub, Int.ofNat_sub h]
theorem sb_sub1 (k : Nat) : sb_n (k + 1) - (1 : Int32) = sb_n k := by rw [show (1 : Int32) = sb_n 1 from rfl, sb_n_sub (by omega)]; rfl
theorem sb_sub1' (k : Nat) : sb_n (k + 1) - sb_n 1 = sb_n k := sb_sub1 k
theorem sb_i_lt {a b : Int} (h1 : -2147483648 ≤ a) (h2 : a ≤ 2147483647) (h3 : -2147483648 ≤ b) (h4 : b ≤ 2147483647) : (sb_i a < sb_i b) = (a < b) := by rw [Int32.lt_iff_toInt_lt, sb_ti h1 h2, sb_ti h3 h4]
theorem sb_i_le {a b : Int} (h1 : -2147483648 ≤ a) (h2 : a ≤ 2147483647) (h3 : -2147483648 ≤ b) (h4 : b ≤ 2147483647) : (sb_i a ≤ sb_i b) = (a ≤ b) := by rw [Int32.le_iff_toInt_le, sb_ti h1 h2, sb_ti h3 h4]
theorem sb_i_eq {a b : Int} (h1 : -2147483648 ≤ a) (h2 : a ≤ 2147483647) (h3 : -2147483648 ≤ b) (h4 : b ≤ 2147483647) : (sb_i a = sb_i b) = (a = b) := by rw [← Int32.toInt_inj, sb_ti h1 h2, sb_ti h3 h4]
theorem sb_n_lt {a b : Nat} (h1 : a ≤ 2147483647) (h2 : b ≤ 2147483647) : (sb_n a < sb_n b) = (a < b) := by rw [Int32.lt_iff_toInt_lt, sb_tn h1, sb_tn h2]; exact propext Int.ofNat_lt
theorem sb_n_le {a b : Nat} (h1 : a ≤ 2147483647) (h2 : b ≤ 2147483647) : (sb_n a ≤ sb_n b) = (a ≤ b) := by rw [Int32.le_iff_toInt_le, sb_tn h1, sb_tn h2]; exact propext Int.ofNat_le
theorem sb_n_eq {a b : Nat} (h1 : a ≤ 2147483647) (h2 : b ≤ 2147483647) : (sb_n a = sb_n b) = (a = b) := by rw [← Int32.toInt_inj, sb_tn h1, sb_tn h2]; exact propext Int.ofNat_inj
theorem sb_i_div {a b : Int} (h1 : -2147483648 ≤ a) (h2 : a ≤ 2147483647) (h3 : -2147483648 ≤ b) (h4 : b ≤ 2147483647) : sb_i a / sb_i b = sb_i (a.tdiv b) := (Int32.ofInt_tdiv h1 h2 h3 h4).symm
theorem sb_i_mod {a b : Int} (h1 : -2147483648 ≤ a) (h2 : a ≤ 2147483647) (h3 : -2147483648 ≤ b) (h4 : b ≤ 2147483647) : sb_i a % sb_i b = sb_i (a.tmod b) := (Int32.ofInt_tmod h1 h2 h3 h4).symm
theorem sb_n_div {a b : Nat} (h1 : a ≤ 2147483647) (h2 : b ≤ 2147483647) : sb_n a / sb_n b = sb_n (a / b) := by
  rw [sb_n_i, sb_n_i, sb_n_i, sb_i_div (by omega) (by omega) (by omega) (by omega), Int.ofNat_tdiv]
theorem sb_n_mod {a b : Nat} (h1 : a ≤ 2147483647) (h2 : b ≤ 2147483647) : sb_n a % sb_n b = sb_n (a % b) := by
  rw [sb_n_i, sb_n_i, sb_n_i, sb_i_mod (by omega) (by omega) (by omega) (by omega), Int.ofNat_tmod]
theorem sb_c_ltn {c : Int32} {k : Nat} (h : k ≤ 2147483647) : (c < sb_n k) = (c.toInt < k) := by rw [Int32.lt_iff_toInt_lt, sb_tn h]
theorem sb_n_ltc {c : Int32} {k : Nat} (h : k ≤ 2147483647) : (sb_n k < c) = ((k : Int) < c.toInt) := by rw [Int32.lt_iff_toInt_lt, sb_tn h]
theorem sb_c_len {c : Int32} {k : Nat} (h : k ≤ 2147483647) : (c ≤ sb_n k) = (c.toInt ≤ k) := by rw [Int32.le_iff_toInt_le, sb_tn h]
theorem sb_n_lec {c : Int32} {k : Nat} (h : k ≤ 2147483647) : (sb_n k ≤ c) = ((k : Int) ≤ c.toInt) := by rw [Int32.le_iff_toInt_le, sb_tn h]
theorem sb_c_eqn {c : Int32} {k : Nat} (h : k ≤ 2147483647) : (c = sb_n k) = (c.toInt = k) := by rw [← Int32.toInt_inj, sb_tn h]
/-- a number that is not negative -/
theorem sb_n_of {x : Int32} (h : 0 ≤ x) : ∃ k, k ≤ 2147483647 ∧ x = sb_n k ∧ x.toInt = k := by
  have h1 : 0 ≤ x.toInt := by rw [Int32.le_iff_toInt_le] at h; exact h
  have h2 := Int32.toInt_lt x
  refine ⟨x.toInt.toNat, by omega, ?_, by omega⟩
  rw [sb_n_i, Int.toNat_of_nonneg h1]; exact sb_i_of x
theorem sb_n_lo {x y : Int32} {m : Nat} (h : ¬ x < 0) (h2 : x < y) (hy : y = sb_n m) (hm : m ≤ 2147483647) : ∃ k, k < m ∧ x = sb_n k := by
  have h0 : (0 : Int32) ≤ x := Int32.not_lt.mp h
  obtain ⟨k, hk, rfl, _⟩ := sb_n_of h0
  subst hy
  rw [sb_n_lt hk hm] at h2
  exact ⟨k, h2, rfl⟩
theorem sb_ib_n {k n : Nat} (h : k ≤ 2147483647) : (sv_ib (sb_n k) n = true) = (k < n) := by
  unfold sv_ib
  rw [sb_n_ix h]
  have : ¬ sb_n k < 0 := by rw [show (0 : Int32) = sb_n 0 from rfl, sb_n_lt h (by omega)]; omega
  simp [this]
theorem sb_ib_i {z : Int} {n : Nat} (h1 : -2147483648 ≤ z) (h2 : z ≤ 2147483647) : (sv_ib (sb_i z) n = true) = (0 ≤ z ∧ z < n) := by
  unfold sv_ib
  rw [sb_i_ix h1 h2]
  have : (sb_i z < 0) = (z < 0) := by rw [show (0 : Int32) = sb_i 0 from rfl, sb_i_lt h1 h2 (by omega) (by omega)]
  simp only [this, decide_eq_true_eq, eq_iff_iff]
  omega
/-! an answer that is there, and keeps Q -/
def sb_W {α : Type} (o : Option α) (Q : α → Prop) : Prop := ∃ a, o = some a ∧ Q a
section SBW
variable {α β : Type} {o o1 o2 : Option α} {Q R : α → Prop}
theorem sb_Wsome {a : α} (h : Q a) : sb_W (some a) Q := ⟨a, rfl, h⟩
theorem sb_Weq {a : α} (h : o = some a) (hQ : Q a) : sb_W o Q := ⟨a, h, hQ⟩
theorem sb_Wmono (h : sb_W o R) (k : ∀ a, R a → Q a) : sb_W o Q := ⟨h.choose, h.choose_spec.1, k _ h.choose_spec.2⟩
theorem sb_Wbind {p : Option β} {f : β → Option α} (h : sb_W p (fun b => sb_W (f b) Q)) : sb_W (p.bind f) Q := by
  obtain ⟨b, rfl, hb⟩ := h; exact hb
theorem sb_Wbind2 {p : Option β} {f : β → Option α} {S : β → Prop} (h : sb_W p S) (k : ∀ b, S b → sb_W (f b) Q) : sb_W (p.bind f) Q := by
  obtain ⟨b, rfl, hb⟩ := h; exact k b hb
theorem sb_Wlet {b : β} {f : β → Option α} (h : sb_W (f b) Q) : sb_W (ss_let b f) Q := h
theorem sb_Wif {c : Prop} [Decidable c] (h1 : c → sb_W o1 Q) (h2 : ¬ c → sb_W o2 Q) : sb_W (if c then o1 else o2) Q := by
  by_cases h : c
  · rw [if_pos h]; exact h1 h
  · rw [if_neg h]; exact h2 h
theorem sb_Wpos {c : Prop} [Decidable c] (h : c) (h1 : sb_W o1 Q) : sb_W (if c then o1 else o2) Q := by rw [if_pos h]; exact h1
theorem sb_Wneg {c : Prop} [Decidable c] (h : ¬ c) (h1 : sb_W o2 Q) : sb_W (if c then o1 else o2) Q := by rw [if_neg h]; exact h1
/-- a loop that counts from k up to N -/
theorem sb_for (F : Nat → Nat → sv_S → Option α) (N : Nat) (I : Nat → sv_S → Prop)
    (hexit : ∀ n s, I N s → sb_W (F (n + 1) N s) Q) (hstep : ∀ n k s, k < N → I k s → (∀ s', I (k + 1) s' → sb_W (F n (k + 1) s') Q) → sb_W (F (n + 1) k s) Q) :
    ∀ (n k : Nat) (s : sv_S), k ≤ N → N < n + k → I k s → sb_W (F n k s) Q := by
  intro n
  induction n with
  | zero => intro k s h1 h2; omega
  | succ n ih =>
    intro k s h1 h2 hI
    by_cases h : k = N
    · subst h; exact hexit n s hI
    · exact hstep n k s (by omega) hI (fun s' hI' => ih (k + 1) s' (by omega) (by omega) hI')
/-- the same without a picture -/
theorem sb_for0 (F : Nat → Nat → Option α) (N : Nat) (I : Nat → Prop)
    (hexit : ∀ n, I N → sb_W (F (n + 1) N) Q) (hstep : ∀ n k, k < N → I k → (I (k + 1) → sb_W (F n (k + 1)) Q) → sb_W (F (n + 1) k) Q) :
    ∀ (n k : Nat), k ≤ N → N < n + k → I k → sb_W (F n k) Q := by
  intro n
  induction n with
  | zero => intro k h1 h2; omega
  | succ n ih =>
    intro k h1 h2 hI
    by_cases h : k = N
    · subst h; exact hexit n hI
    · exact hstep n k (by omega) hI (fun hI' => ih (k + 1) (by omega) (by omega) hI')
/-- a loop with a measure -/
theorem sb_while {σ : Type} (F : Nat → σ → Option α) (I : σ → Prop) (μ : σ → Nat)
    (hstep : ∀ n x, I x → (∀ y, I y → μ y < μ x → sb_W (F n y) Q) → sb_W (F (n + 1) x) Q) :
    ∀ (n : Nat) (x : σ), I x → μ x < n → sb_W (F n x) Q := by
  intro n
  induction n with
  | zero => intro x _ h; omega
  | succ n ih => intro x hI h; exact hstep n x hI (fun y hy hlt => ih y hy (by omega))
end SBW
/-! what a piece leaves alone: regions are fields of objects (1000 * cell + field), rows, the rates, the nets, the tapes, the laws -/
def sb_ob : List Nat := [64, 65, 77, 81, 85, 88, 151, 159, 163, 175, 177, 187]
def sb_rg (c k : Nat) : Nat := if sb_ob.contains c = true then 1000 * c + k else if 91 ≤ c ∧ c ≤ 150 then 91 else if 70 ≤ c ∧ c ≤ 76 then 70 else if 181 ≤ c ∧ c ≤ 186 then 181 else if 243 ≤ c then 243 else c
def sb_fr (L : List Nat) (s t : sv_S) : Prop := (∀ c k, L.contains (sb_rg c k) = false → t.1 c k = s.1 c k) ∧ t.2 = s.2
theorem sb_fr_refl (L : List Nat) (s : sv_S) : sb_fr L s s := ⟨fun _ _ _ => rfl, rfl⟩
theorem sb_fr_trans {L : List Nat} {s t u : sv_S} (h1 : sb_fr L s t) (h2 : sb_fr L t u) : sb_fr L s u := ⟨fun c k h => (h2.1 c k h).trans (h1.1 c k h), h2.2.trans h1.2⟩
theorem sb_fr_mono {L L' : List Nat} {s t : sv_S} (h : sb_fr L s t) (hs : ∀ x, x ∈ L → L'.contains x = true) : sb_fr L' s t := by
  refine ⟨fun c k q => h.1 c k ?_, h.2⟩
  cases e : L.contains (sb_rg c k) with
  | false => rfl
  | true => exact absurd (hs _ (List.contains_iff_mem.mp e)) (by rw [q]; decide)
theorem sb_up_ne {α : Type} {f : Nat → Nat → α} {c k a j : Nat} {v : α} (h : ¬ (a = c ∧ j = k)) : sv_up f c k v a j = f a j := if_neg h
theorem sb_up_eq {α : Type} {f : Nat → Nat → α} {c k : Nat} {v : α} : sv_up f c k v c k = v := if_pos ⟨rfl, rfl⟩
theorem sb_fr_set {L : List Nat} {s t : sv_S} {c k : Nat} {v : Int32} (h : sb_fr L s t) (hc : L.contains (sb_rg c k) = true) : sb_fr L s (ss_setI t c k v) := by
  refine ⟨fun a j q => ?_, h.2⟩
  have : ¬ (a = c ∧ j = k) := fun e => by rw [e.1, e.2, hc] at q; cases q
  exact (sb_up_ne this).trans (h.1 a j q)
theorem sb_set_eq {s : sv_S} {c k : Nat} {v : Int32} : (ss_setI s c k v).1 c k = v := sb_up_eq
theorem sb_set_ne {s : sv_S} {c k a j : Nat} {v : Int32} (h : ¬ (a = c ∧ j = k)) : (ss_setI s c k v).1 a j = s.1 a j := sb_up_ne h
theorem sb_set_2 {s : sv_S} {c k : Nat} {v : Int32} : (ss_setI s c k v).2 = s.2 := rfl
/-- a view: regions of a list alone -/
def sb_vw (L : List Nat) (s : sv_S) : Nat → Nat → Int32 := fun c k => if L.contains (sb_rg c k) = true then s.1 c k else 0
theorem sb_vw_fr {L Z : List Nat} {s t : sv_S} (h : sb_fr Z s t) (hd : L.all (fun x => !Z.contains x) = true) : sb_vw L t = sb_vw L s := by
  funext c k
  unfold sb_vw
  by_cases e : L.contains (sb_rg c k) = true
  · rw [if_pos e, if_pos e]
    refine h.1 c k ?_
    have := List.all_eq_true.mp hd _ (List.contains_iff_mem.mp e)
    simpa using this
  · rw [if_neg e, if_neg e]
theorem sb_vw_set {L : List Nat} {s : sv_S} {c k : Nat} {v : Int32} (h : L.contains (sb_rg c k) = false) : sb_vw L (ss_setI s c k v) = sb_vw L s := by
  funext a j
  unfold sb_vw
  by_cases e : L.contains (sb_rg a j) = true
  · rw [if_pos e, if_pos e, sb_set_ne]
    intro q; rw [q.1, q.2, h] at e; cases e
  · rw [if_neg e, if_neg e]
theorem sb_vw_at {L : List Nat} {s : sv_S} {c k : Nat} (h : L.contains (sb_rg c k) = true) : sb_vw L s c k = s.1 c k := if_pos h
