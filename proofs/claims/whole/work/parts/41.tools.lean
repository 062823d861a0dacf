/-! half B: numbers, answers, frames -/
def zb_n (k : Nat) : Int32 := Int32.ofNat k
def zb_i (z : Int) : Int32 := Int32.ofInt z
def zb_r (z : Int) : Prop := -2147483648 ≤ z ∧ z ≤ 2147483647
theorem zb_n_i (k : Nat) : zb_n k = zb_i k := by unfold zb_n zb_i; exact (Int32.ofInt_eq_ofNat (n := k)).symm
theorem zb_lit (k : Nat) : (@OfNat.ofNat Int32 k _) = zb_n k := rfl
theorem zb_m1 : (-1 : Int32) = zb_i (-1) := by decide +kernel
theorem zb_m2 : (-2 : Int32) = zb_i (-2) := by decide +kernel
theorem zb_m3 : (-3 : Int32) = zb_i (-3) := by decide +kernel
theorem zb_m4 : (-4 : Int32) = zb_i (-4) := by decide +kernel
theorem zb_m5 : (-5 : Int32) = zb_i (-5) := by decide +kernel
theorem zb_i_of (x : Int32) : x = zb_i x.toInt := (Int32.ofInt_toInt x).symm
theorem zb_ti {z : Int} (h1 : -2147483648 ≤ z) (h2 : z ≤ 2147483647) : (zb_i z).toInt = z := Int32.toInt_ofInt_of_le (by omega) (by omega)
theorem zb_tn {k : Nat} (h : k ≤ 2147483647) : (zb_n k).toInt = k := by rw [zb_n_i]; exact zb_ti (by omega) (by omega)
theorem zb_n_ix {k : Nat} (h : k ≤ 2147483647) : (zb_n k).toNatClampNeg = k := by show (zb_n k).toInt.toNat = k; rw [zb_tn h]; rfl
theorem zb_i_ix {z : Int} (h1 : -2147483648 ≤ z) (h2 : z ≤ 2147483647) : (zb_i z).toNatClampNeg = z.toNat := by show (zb_i z).toInt.toNat = _; rw [zb_ti h1 h2]
theorem zb_n_add (a b : Nat) : zb_n a + zb_n b = zb_n (a + b) := (Int32.ofNat_add a b).symm
theorem zb_n_mul (a b : Nat) : zb_n a * zb_n b = zb_n (a * b) := (Int32.ofNat_mul a b).symm
theorem zb_i_add (a b : Int) : zb_i a + zb_i b = zb_i (a + b) := (Int32.ofInt_add a b).symm
theorem zb_i_sub (a b : Int) : zb_i a - zb_i b = zb_i (a - b) := (Int32.ofInt_sub a b).symm
theorem zb_i_mul (a b : Int) : zb_i a * zb_i b = zb_i (a * b) := (Int32.ofInt_mul a b).symm
theorem zb_i_neg (a : Int) : - zb_i a = zb_i (- a) := (Int32.ofInt_neg a).symm
theorem zb_n_sub {a b : Nat} (h : b ≤ a) : zb_n a - zb_n b = zb_n (a - b) := by rw [zb_n_i, zb_n_i, zb_n_i, zb_i_sub, Int.ofNat_sub h]
theorem zb_sub1 (k : Nat) : zb_n (k + 1) - (1 : Int32) = zb_n k := by rw [show (1 : Int32) = zb_n 1 from rfl, zb_n_sub (by omega)]; rfl
theorem zb_sub1' (k : Nat) : zb_n (k + 1) - zb_n 1 = zb_n k := zb_sub1 k
theorem zb_i_lt {a b : Int} (h1 : -2147483648 ≤ a) (h2 : a ≤ 2147483647) (h3 : -2147483648 ≤ b) (h4 : b ≤ 2147483647) : (zb_i a < zb_i b) = (a < b) := by rw [Int32.lt_iff_toInt_lt, zb_ti h1 h2, zb_ti h3 h4]
theorem zb_i_le {a b : Int} (h1 : -2147483648 ≤ a) (h2 : a ≤ 2147483647) (h3 : -2147483648 ≤ b) (h4 : b ≤ 2147483647) : (zb_i a ≤ zb_i b) = (a ≤ b) := by rw [Int32.le_iff_toInt_le, zb_ti h1 h2, zb_ti h3 h4]
theorem zb_i_eq {a b : Int} (h1 : -2147483648 ≤ a) (h2 : a ≤ 2147483647) (h3 : -2147483648 ≤ b) (h4 : b ≤ 2147483647) : (zb_i a = zb_i b) = (a = b) := by rw [← Int32.toInt_inj, zb_ti h1 h2, zb_ti h3 h4]
theorem zb_n_lt {a b : Nat} (h1 : a ≤ 2147483647) (h2 : b ≤ 2147483647) : (zb_n a < zb_n b) = (a < b) := by rw [Int32.lt_iff_toInt_lt, zb_tn h1, zb_tn h2]; exact propext Int.ofNat_lt
theorem zb_n_le {a b : Nat} (h1 : a ≤ 2147483647) (h2 : b ≤ 2147483647) : (zb_n a ≤ zb_n b) = (a ≤ b) := by rw [Int32.le_iff_toInt_le, zb_tn h1, zb_tn h2]; exact propext Int.ofNat_le
theorem zb_n_eq {a b : Nat} (h1 : a ≤ 2147483647) (h2 : b ≤ 2147483647) : (zb_n a = zb_n b) = (a = b) := by rw [← Int32.toInt_inj, zb_tn h1, zb_tn h2]; exact propext Int.ofNat_inj
theorem zb_i_div {a b : Int} (h1 : -2147483648 ≤ a) (h2 : a ≤ 2147483647) (h3 : -2147483648 ≤ b) (h4 : b ≤ 2147483647) : zb_i a / zb_i b = zb_i (a.tdiv b) := (Int32.ofInt_tdiv h1 h2 h3 h4).symm
theorem zb_i_mod {a b : Int} (h1 : -2147483648 ≤ a) (h2 : a ≤ 2147483647) (h3 : -2147483648 ≤ b) (h4 : b ≤ 2147483647) : zb_i a % zb_i b = zb_i (a.tmod b) := (Int32.ofInt_tmod h1 h2 h3 h4).symm
theorem zb_n_div {a b : Nat} (h1 : a ≤ 2147483647) (h2 : b ≤ 2147483647) : zb_n a / zb_n b = zb_n (a / b) := by
  rw [zb_n_i, zb_n_i, zb_n_i, zb_i_div (by omega) (by omega) (by omega) (by omega), Int.ofNat_tdiv]
theorem zb_n_mod {a b : Nat} (h1 : a ≤ 2147483647) (h2 : b ≤ 2147483647) : zb_n a % zb_n b = zb_n (a % b) := by
  rw [zb_n_i, zb_n_i, zb_n_i, zb_i_mod (by omega) (by omega) (by omega) (by omega), Int.ofNat_tmod]
theorem zb_c_ltn {c : Int32} {k : Nat} (h : k ≤ 2147483647) : (c < zb_n k) = (c.toInt < k) := by rw [Int32.lt_iff_toInt_lt, zb_tn h]
theorem zb_n_ltc {c : Int32} {k : Nat} (h : k ≤ 2147483647) : (zb_n k < c) = ((k : Int) < c.toInt) := by rw [Int32.lt_iff_toInt_lt, zb_tn h]
theorem zb_c_len {c : Int32} {k : Nat} (h : k ≤ 2147483647) : (c ≤ zb_n k) = (c.toInt ≤ k) := by rw [Int32.le_iff_toInt_le, zb_tn h]
theorem zb_n_lec {c : Int32} {k : Nat} (h : k ≤ 2147483647) : (zb_n k ≤ c) = ((k : Int) ≤ c.toInt) := by rw [Int32.le_iff_toInt_le, zb_tn h]
theorem zb_c_eqn {c : Int32} {k : Nat} (h : k ≤ 2147483647) : (c = zb_n k) = (c.toInt = k) := by rw [← Int32.toInt_inj, zb_tn h]
/-- a number that is not negative -/
theorem zb_n_of {x : Int32} (h : 0 ≤ x) : ∃ k, k ≤ 2147483647 ∧ x = zb_n k ∧ x.toInt = k := by
  have h1 : 0 ≤ x.toInt := by rw [Int32.le_iff_toInt_le] at h; exact h
  have h2 := Int32.toInt_lt x
  refine ⟨x.toInt.toNat, by omega, ?_, by omega⟩
  rw [zb_n_i, Int.toNat_of_nonneg h1]; exact zb_i_of x
theorem zb_n_lo {x y : Int32} {m : Nat} (h : ¬ x < 0) (h2 : x < y) (hy : y = zb_n m) (hm : m ≤ 2147483647) : ∃ k, k < m ∧ x = zb_n k := by
  have h0 : (0 : Int32) ≤ x := Int32.not_lt.mp h
  obtain ⟨k, hk, rfl, _⟩ := zb_n_of h0
  subst hy
  rw [zb_n_lt hk hm] at h2
  exact ⟨k, h2, rfl⟩
theorem zb_ib_n {k n : Nat} (h : k ≤ 2147483647) : (sv_ib (zb_n k) n = true) = (k < n) := by
  unfold sv_ib
  rw [zb_n_ix h]
  have : ¬ zb_n k < 0 := by rw [show (0 : Int32) = zb_n 0 from rfl, zb_n_lt h (by omega)]; omega
  simp [this]
theorem zb_ib_i {z : Int} {n : Nat} (h1 : -2147483648 ≤ z) (h2 : z ≤ 2147483647) : (sv_ib (zb_i z) n = true) = (0 ≤ z ∧ z < n) := by
  unfold sv_ib
  rw [zb_i_ix h1 h2]
  have : (zb_i z < 0) = (z < 0) := by rw [show (0 : Int32) = zb_i 0 from rfl, zb_i_lt h1 h2 (by omega) (by omega)]
  simp only [this, decide_eq_true_eq, eq_iff_iff]
  omega
/-! an answer that is there, and keeps Q -/
def zb_W {α : Type} (o : Option α) (Q : α → Prop) : Prop := ∃ a, o = some a ∧ Q a
section SBW
variable {α β : Type} {o o1 o2 : Option α} {Q R : α → Prop}
theorem zb_Wsome {a : α} (h : Q a) : zb_W (some a) Q := ⟨a, rfl, h⟩
theorem zb_Weq {a : α} (h : o = some a) (hQ : Q a) : zb_W o Q := ⟨a, h, hQ⟩
theorem zb_Wmono (h : zb_W o R) (k : ∀ a, R a → Q a) : zb_W o Q := ⟨h.choose, h.choose_spec.1, k _ h.choose_spec.2⟩
theorem zb_Wbind {p : Option β} {f : β → Option α} (h : zb_W p (fun b => zb_W (f b) Q)) : zb_W (p.bind f) Q := by
  obtain ⟨b, rfl, hb⟩ := h; exact hb
theorem zb_Wbind2 {p : Option β} {f : β → Option α} {S : β → Prop} (h : zb_W p S) (k : ∀ b, S b → zb_W (f b) Q) : zb_W (p.bind f) Q := by
  obtain ⟨b, rfl, hb⟩ := h; exact k b hb
theorem zb_Wlet {b : β} {f : β → Option α} (h : zb_W (f b) Q) : zb_W (ss_let b f) Q := h
theorem zb_Wif {c : Prop} [Decidable c] (h1 : c → zb_W o1 Q) (h2 : ¬ c → zb_W o2 Q) : zb_W (if c then o1 else o2) Q := by
  by_cases h : c
  · rw [if_pos h]; exact h1 h
  · rw [if_neg h]; exact h2 h
theorem zb_Wpos {c : Prop} [Decidable c] (h : c) (h1 : zb_W o1 Q) : zb_W (if c then o1 else o2) Q := by rw [if_pos h]; exact h1
theorem zb_Wneg {c : Prop} [Decidable c] (h : ¬ c) (h1 : zb_W o2 Q) : zb_W (if c then o1 else o2) Q := by rw [if_neg h]; exact h1
/-- a loop that counts from k up to N -/
theorem zb_for (F : Nat → Nat → sv_S → Option α) (N : Nat) (I : Nat → sv_S → Prop)
    (hexit : ∀ n s, I N s → zb_W (F (n + 1) N s) Q) (hstep : ∀ n k s, k < N → I k s → (∀ s', I (k + 1) s' → zb_W (F n (k + 1) s') Q) → zb_W (F (n + 1) k s) Q) :
    ∀ (n k : Nat) (s : sv_S), k ≤ N → N < n + k → I k s → zb_W (F n k s) Q := by
  intro n
  induction n with
  | zero => intro k s h1 h2; omega
  | succ n ih =>
    intro k s h1 h2 hI
    by_cases h : k = N
    · subst h; exact hexit n s hI
    · exact hstep n k s (by omega) hI (fun s' hI' => ih (k + 1) s' (by omega) (by omega) hI')
/-- the same without a picture -/
theorem zb_for0 (F : Nat → Nat → Option α) (N : Nat) (I : Nat → Prop)
    (hexit : ∀ n, I N → zb_W (F (n + 1) N) Q) (hstep : ∀ n k, k < N → I k → (I (k + 1) → zb_W (F n (k + 1)) Q) → zb_W (F (n + 1) k) Q) :
    ∀ (n k : Nat), k ≤ N → N < n + k → I k → zb_W (F n k) Q := by
  intro n
  induction n with
  | zero => intro k h1 h2; omega
  | succ n ih =>
    intro k h1 h2 hI
    by_cases h : k = N
    · subst h; exact hexit n hI
    · exact hstep n k (by omega) hI (fun hI' => ih (k + 1) (by omega) (by omega) hI')
/-- a loop with a measure -/
theorem zb_while {σ : Type} (F : Nat → σ → Option α) (I : σ → Prop) (μ : σ → Nat)
    (hstep : ∀ n x, I x → (∀ y, I y → μ y < μ x → zb_W (F n y) Q) → zb_W (F (n + 1) x) Q) :
    ∀ (n : Nat) (x : σ), I x → μ x < n → zb_W (F n x) Q := by
  intro n
  induction n with
  | zero => intro x _ h; omega
  | succ n ih => intro x hI h; exact hstep n x hI (fun y hy hlt => ih y hy (by omega))
end SBW
/-! what a piece leaves alone: regions are fields of objects (1000 * cell + field), rows, the rates, the nets, the tapes, the laws -/
def zb_ob : List Nat := [64, 65, 77, 81, 85, 88, 151, 159, 163, 175, 177, 187]
def zb_rg (c k : Nat) : Nat := if zb_ob.contains c = true then 1000 * c + k else if 91 ≤ c ∧ c ≤ 150 then 91 else if 70 ≤ c ∧ c ≤ 76 then 70 else if 181 ≤ c ∧ c ≤ 186 then 181 else if 243 ≤ c then 243 else c
def zb_fr (L : List Nat) (s t : sv_S) : Prop := (∀ c k, L.contains (zb_rg c k) = false → t.1 c k = s.1 c k) ∧ t.2 = s.2
theorem zb_fr_refl (L : List Nat) (s : sv_S) : zb_fr L s s := ⟨fun _ _ _ => rfl, rfl⟩
theorem zb_fr_trans {L : List Nat} {s t u : sv_S} (h1 : zb_fr L s t) (h2 : zb_fr L t u) : zb_fr L s u := ⟨fun c k h => (h2.1 c k h).trans (h1.1 c k h), h2.2.trans h1.2⟩
theorem zb_fr_mono {L L' : List Nat} {s t : sv_S} (h : zb_fr L s t) (hs : ∀ x, x ∈ L → L'.contains x = true) : zb_fr L' s t := by
  refine ⟨fun c k q => h.1 c k ?_, h.2⟩
  cases e : L.contains (zb_rg c k) with
  | false => rfl
  | true => exact absurd (hs _ (List.contains_iff_mem.mp e)) (by rw [q]; decide)
theorem zb_up_ne {α : Type} {f : Nat → Nat → α} {c k a j : Nat} {v : α} (h : ¬ (a = c ∧ j = k)) : sv_up f c k v a j = f a j := if_neg h
theorem zb_up_eq {α : Type} {f : Nat → Nat → α} {c k : Nat} {v : α} : sv_up f c k v c k = v := if_pos ⟨rfl, rfl⟩
theorem zb_fr_set {L : List Nat} {s t : sv_S} {c k : Nat} {v : Int32} (h : zb_fr L s t) (hc : L.contains (zb_rg c k) = true) : zb_fr L s (ss_setI t c k v) := by
  refine ⟨fun a j q => ?_, h.2⟩
  have : ¬ (a = c ∧ j = k) := fun e => by rw [e.1, e.2, hc] at q; cases q
  exact (zb_up_ne this).trans (h.1 a j q)
theorem zb_set_eq {s : sv_S} {c k : Nat} {v : Int32} : (ss_setI s c k v).1 c k = v := zb_up_eq
theorem zb_set_ne {s : sv_S} {c k a j : Nat} {v : Int32} (h : ¬ (a = c ∧ j = k)) : (ss_setI s c k v).1 a j = s.1 a j := zb_up_ne h
theorem zb_set_2 {s : sv_S} {c k : Nat} {v : Int32} : (ss_setI s c k v).2 = s.2 := rfl
/-- a view: regions of a list alone -/
def zb_vw (L : List Nat) (s : sv_S) : Nat → Nat → Int32 := fun c k => if L.contains (zb_rg c k) = true then s.1 c k else 0
theorem zb_vw_fr {L Z : List Nat} {s t : sv_S} (h : zb_fr Z s t) (hd : L.all (fun x => !Z.contains x) = true) : zb_vw L t = zb_vw L s := by
  funext c k
  unfold zb_vw
  by_cases e : L.contains (zb_rg c k) = true
  · rw [if_pos e, if_pos e]
    refine h.1 c k ?_
    have := List.all_eq_true.mp hd _ (List.contains_iff_mem.mp e)
    simpa using this
  · rw [if_neg e, if_neg e]
theorem zb_vw_set {L : List Nat} {s : sv_S} {c k : Nat} {v : Int32} (h : L.contains (zb_rg c k) = false) : zb_vw L (ss_setI s c k v) = zb_vw L s := by
  funext a j
  unfold zb_vw
  by_cases e : L.contains (zb_rg a j) = true
  · rw [if_pos e, if_pos e, zb_set_ne]
    intro q; rw [q.1, q.2, h] at e; cases e
  · rw [if_neg e, if_neg e]
theorem zb_vw_at {L : List Nat} {s : sv_S} {c k : Nat} (h : L.contains (zb_rg c k) = true) : zb_vw L s c k = s.1 c k := if_pos h
