/-! unlikes -/
def zb_ur (P : Nat → Nat → Bool) (a : Nat) : Nat → Nat
  | 0 => 0
  | k + 1 => zb_ur P a k + (if a < k ∧ P a k = true then 1 else 0)
def zb_ua (P : Nat → Nat → Bool) (T : Nat) : Nat → Nat
  | 0 => 0
  | a + 1 => zb_ua P T a + zb_ur P a T
theorem zb_ur0 {P : Nat → Nat → Bool} {a : Nat} : ∀ k, k ≤ a + 1 → zb_ur P a k = 0
  | 0, _ => rfl
  | k + 1, h => by
    simp only [zb_ur]
    rw [zb_ur0 k (by omega), if_neg (by omega)]
theorem zb_ur_s {P : Nat → Nat → Bool} {a k : Nat} (h : a < k) : zb_ur P a (k + 1) = zb_ur P a k + (if P a k = true then 1 else 0) := by
  simp only [zb_ur]
  by_cases q : P a k = true
  · rw [if_pos ⟨h, q⟩, if_pos q]
  · rw [if_neg (fun z => q z.2), if_neg q]
/-- the first two -/
def zb_first (P : Nat → Nat → Bool) (T : Nat) (o : Option (Nat × Nat)) : Prop :=
  (o = none ∧ ∀ a b, a < b → b < T → P a b = false) ∨ (∃ a b, o = some (a, b) ∧ a < b ∧ b < T ∧ P a b = true ∧ ∀ a' b', a' < b' → b' < T → (a' < a ∨ (a' = a ∧ b' < b)) → P a' b' = false)
theorem zb_first_u {P : Nat → Nat → Bool} {T : Nat} {o o' : Option (Nat × Nat)} (h : zb_first P T o) (h' : zb_first P T o') : o = o' := by
  rcases h with ⟨rfl, h⟩ | ⟨a, b, rfl, h1, h2, h3, h4⟩
  · rcases h' with ⟨rfl, _⟩ | ⟨a', b', rfl, k1, k2, k3, k4⟩
    · rfl
    · rw [h a' b' k1 k2] at k3; cases k3
  · rcases h' with ⟨rfl, h'⟩ | ⟨a', b', rfl, k1, k2, k3, k4⟩
    · rw [h' a b h1 h2] at h3; cases h3
    · by_cases e1 : a' < a
      · rw [h4 a' b' k1 k2 (Or.inl e1)] at k3; cases k3
      · by_cases e2 : a < a'
        · rw [k4 a b h1 h2 (Or.inl e2)] at h3; cases h3
        · have e : a = a' := by omega
          subst e
          by_cases e3 : b' < b
          · rw [h4 a b' k1 k2 (Or.inr ⟨rfl, e3⟩)] at k3; cases k3
          · by_cases e4 : b < b'
            · rw [k4 a b h1 h2 (Or.inr ⟨rfl, e4⟩)] at h3; cases h3
            · have : b = b' := by omega
              rw [this]
def zb_fv (x : Nat) (o : Option (Nat × Nat)) : Int32 := match o with
  | none => (-1 : Int32)
  | some (a, b) => if x = 1 then zb_n a else zb_n b
section ULS
variable {N K td Q T W Z : Nat} {A B O ZK : Nat → Nat} {M LO LD : Nat → Int} {LE : Nat → List zb_EF} {R TK WK : Nat → Nat → Int} {s : sv_S}
variable {x1 x2 x3 : Int32} {a b : Nat}
theorem zb_count_X (h : zb_J1 N A B M O K LO LD LE td Q R T TK W WK Z ZK s) : zb_W (F_Tr_countUnlike s) (fun r => r.1 = zb_n (zb_ua (zb_unl K LO LD LE R TK) T T) ∧ zb_J1 N A B M O K LO LD LE td Q R T TK W WK Z ZK r.2 ∧ zb_fx zb_ZUX s r.2) := by
  have h80 := h.1.2.2.2.1
  have st := fun (u : sv_S) (hu : zb_J1 N A B M O K LO LD LE td Q R T TK W WK Z ZK u) (a b : Nat) (ha : a < T) (hb : b < T) => zb_unlike_X hu ha hb
  generalize zb_unl K LO LD LE R TK = P at *
  unfold F_Tr_countUnlike
  refine zb_for (fun n a u => F_Tr_countUnlike_b4 n (zb_n (zb_ua P T a)) (zb_n a) u) T (fun a u => zb_J1 N A B M O K LO LD LE td Q R T TK W WK Z ZK u ∧ zb_fx zb_ZUX s u) ?_ ?_ ss_F 0 s (by omega) (by unfold ss_F; omega) ⟨h, zb_fx_refl _ _⟩
  · intro n u hu
    simp only [F_Tr_countUnlike_b4]
    rw [hu.1.2.2.1.2.2.2.2.2.1.1]
    exact zb_Wpos (Int32.le_refl _) (zb_Wsome ⟨rfl, hu⟩)
  · intro n a u ha hu ih
    simp only [F_Tr_countUnlike_b4]
    rw [hu.1.2.2.1.2.2.2.2.2.1.1]
    refine zb_Wneg (by rw [zb_n_le (by omega) (by omega)]; omega) (zb_Wlet ?_)
    rw [show zb_n a + (1 : Int32) = zb_n (a + 1) from zb_n_add a 1]
    have lp := zb_for (Q := fun r => r.1 = zb_n (zb_ua P T T) ∧ zb_J1 N A B M O K LO LD LE td Q R T TK W WK Z ZK r.2 ∧ zb_fx zb_ZUX s r.2) (fun m b v => F_Tr_countUnlike_b16 (F_Tr_countUnlike_b4 n) m (zb_n (zb_ua P T a + zb_ur P a b)) (zb_n a) (zb_n b) v) T (fun b v => zb_J1 N A B M O K LO LD LE td Q R T TK W WK Z ZK v ∧ zb_fx zb_ZUX s v ∧ a < b) ?_ ?_ ss_F (a + 1) u (by omega) (by unfold ss_F; omega) ⟨hu.1, hu.2, by omega⟩
    · rw [zb_ur0 (a + 1) (by omega), Nat.add_zero] at lp
      exact lp
    · intro m v hv
      simp only [F_Tr_countUnlike_b16]
      rw [hv.1.2.2.1.2.2.2.2.2.1.1]
      refine zb_Wpos (Int32.le_refl _) (zb_Wlet ?_)
      rw [show zb_n a + (1 : Int32) = zb_n (a + 1) from zb_n_add a 1]
      exact ih v ⟨hv.1, hv.2.1⟩
    · intro m b v hb hv ihb
      simp only [F_Tr_countUnlike_b16]
      rw [hv.1.2.2.1.2.2.2.2.2.1.1]
      refine zb_Wneg (by rw [zb_n_le (by omega) (by omega)]; omega) ?_
      refine zb_Wbind2 (st v hv.1 a b ha hb) (fun r hr => ?_)
      obtain ⟨r1, r2, r3⟩ := hr
      have e1 : F_Tr_oneIf r.1 r.2 = some (zb_n (if P a b = true then 1 else 0)) := by
        rw [r1]
        cases P a b with
        | false => exact zb_one0
        | true => exact zb_one1
      rw [e1]
      refine zb_Wbind (zb_Wsome (zb_Wlet (zb_Wlet ?_)))
      rw [show zb_n b + (1 : Int32) = zb_n (b + 1) from zb_n_add b 1, zb_n_add, Nat.add_assoc, ← zb_ur_s hv.2.2]
      exact ihb r.2 ⟨r2, zb_fx_trans hv.2.1 r3, by omega⟩
theorem zb_first_X (h : zb_J1 N A B M O K LO LD LE td Q R T TK W WK Z ZK s) {x : Nat} (hx : x = 1 ∨ x = 2) : zb_W (F_Tr_firstUnlike (zb_n (x - 1)) s) (fun r => (∃ o, zb_first (zb_unl K LO LD LE R TK) T o ∧ r.1 = zb_fv x o) ∧ zb_J1 N A B M O K LO LD LE td Q R T TK W WK Z ZK r.2 ∧ zb_fx zb_ZUX s r.2) := by
  have h80 := h.1.2.2.2.1
  have st := fun (u : sv_S) (hu : zb_J1 N A B M O K LO LD LE td Q R T TK W WK Z ZK u) (a b : Nat) (ha : a < T) (hb : b < T) => zb_unlike_X hu ha hb
  generalize zb_unl K LO LD LE R TK = P at *
  unfold F_Tr_firstUnlike
  refine zb_for (fun n a u => F_Tr_firstUnlike_b2 n (zb_n (x - 1)) (zb_n a) u) T (fun a u => zb_J1 N A B M O K LO LD LE td Q R T TK W WK Z ZK u ∧ zb_fx zb_ZUX s u ∧ ∀ a' b', a' < b' → b' < T → a' < a → P a' b' = false) ?_ ?_ ss_F 0 s (by omega) (by unfold ss_F; omega) ⟨h, zb_fx_refl _ _, fun _ _ _ _ z => absurd z (by omega)⟩
  · intro n u hu
    simp only [F_Tr_firstUnlike_b2]
    rw [hu.1.2.2.1.2.2.2.2.2.1.1]
    exact zb_Wpos (Int32.le_refl _) (zb_Wsome ⟨⟨none, Or.inl ⟨rfl, fun a b h1 h2 => hu.2.2 a b h1 h2 (by omega)⟩, rfl⟩, hu.1, hu.2.1⟩)
  · intro n a u ha hu ih
    simp only [F_Tr_firstUnlike_b2]
    rw [hu.1.2.2.1.2.2.2.2.2.1.1]
    refine zb_Wneg (by rw [zb_n_le (by omega) (by omega)]; omega) (zb_Wlet ?_)
    rw [show zb_n a + (1 : Int32) = zb_n (a + 1) from zb_n_add a 1]
    refine zb_for (fun m b v => F_Tr_firstUnlike_b14 (F_Tr_firstUnlike_b2 n) m (zb_n (x - 1)) (zb_n a) (zb_n b) v) T (fun b v => zb_J1 N A B M O K LO LD LE td Q R T TK W WK Z ZK v ∧ zb_fx zb_ZUX s v ∧ a < b ∧ ∀ a' b', a' < b' → b' < T → (a' < a ∨ (a' = a ∧ b' < b)) → P a' b' = false) ?_ ?_ ss_F (a + 1) u (by omega) (by unfold ss_F; omega) ⟨hu.1, hu.2.1, by omega, fun a' b' h1 h2 h3 => hu.2.2 a' b' h1 h2 (by omega)⟩
    · intro m v hv
      simp only [F_Tr_firstUnlike_b14]
      rw [hv.1.2.2.1.2.2.2.2.2.1.1]
      refine zb_Wpos (Int32.le_refl _) (zb_Wlet ?_)
      rw [show zb_n a + (1 : Int32) = zb_n (a + 1) from zb_n_add a 1]
      exact ih v ⟨hv.1, hv.2.1, fun a' b' h1 h2 h3 => hv.2.2.2 a' b' h1 h2 (by omega)⟩
    · intro m b v hb hv ihb
      simp only [F_Tr_firstUnlike_b14]
      rw [hv.1.2.2.1.2.2.2.2.2.1.1]
      refine zb_Wneg (by rw [zb_n_le (by omega) (by omega)]; omega) ?_
      refine zb_Wbind2 (st v hv.1 a b ha hb) (fun r hr => ?_)
      obtain ⟨r1, r2, r3⟩ := hr
      rw [r1]
      cases e : P a b with
      | false =>
        refine zb_Wpos rfl (zb_Wlet ?_)
        rw [show zb_n b + (1 : Int32) = zb_n (b + 1) from zb_n_add b 1]
        refine ihb r.2 ⟨r2, zb_fx_trans hv.2.1 r3, by omega, fun a' b' h1 h2 h3 => ?_⟩
        by_cases z : a' = a ∧ b' = b
        · rw [z.1, z.2]; exact e
        · exact hv.2.2.2 a' b' h1 h2 (by omega)
      | true =>
        have fo : zb_first P T (some (a, b)) := Or.inr ⟨a, b, rfl, hv.2.2.1, hb, e, hv.2.2.2⟩
        refine zb_Wneg (by decide) ?_
        rcases hx with rfl | rfl
        · exact zb_Wpos rfl (zb_Wsome ⟨⟨_, fo, rfl⟩, r2, zb_fx_trans hv.2.1 r3⟩)
        · exact zb_Wneg (by decide) (zb_Wsome ⟨⟨_, fo, rfl⟩, r2, zb_fx_trans hv.2.1 r3⟩)
theorem zb_count_M (h : zb_J1 N A B M O K LO LD LE td Q R T TK W WK Z ZK s) : zb_W (F_Mo_unlikes_b16 ss_F (0 : Int32) (0 : Int32) (0 : Int32) s) (fun r => r.1 = zb_n (zb_ua (zb_unl K LO LD LE R TK) T T) ∧ zb_J1 N A B M O K LO LD LE td Q R T TK W WK Z ZK r.2 ∧ zb_fr zb_ZUM s r.2) := by
  have h80 := h.1.2.2.2.1
  have st := fun (u : sv_S) (hu : zb_J1 N A B M O K LO LD LE td Q R T TK W WK Z ZK u) (a b : Nat) (ha : a < T) (hb : b < T) => zb_unlike_M hu ha hb
  generalize zb_unl K LO LD LE R TK = P at *
  refine zb_for (fun n a u => F_Mo_unlikes_b16 n (0 : Int32) (zb_n (zb_ua P T a)) (zb_n a) u) T (fun a u => zb_J1 N A B M O K LO LD LE td Q R T TK W WK Z ZK u ∧ zb_fr zb_ZUM s u) ?_ ?_ ss_F 0 s (by omega) (by unfold ss_F; omega) ⟨h, zb_fr_refl _ _⟩
  · intro n u hu
    simp only [F_Mo_unlikes_b16]
    rw [hu.1.2.1.2.2.2.2.1.1]
    exact zb_Wpos (Int32.le_refl _) (zb_Wpos trivial (zb_Wsome ⟨rfl, hu⟩))
  · intro n a u ha hu ih
    simp only [F_Mo_unlikes_b16]
    rw [hu.1.2.1.2.2.2.2.1.1]
    refine zb_Wneg (by rw [zb_n_le (by omega) (by omega)]; omega) (zb_Wlet ?_)
    rw [show zb_n a + (1 : Int32) = zb_n (a + 1) from zb_n_add a 1]
    have lp := zb_for (Q := fun r => r.1 = zb_n (zb_ua P T T) ∧ zb_J1 N A B M O K LO LD LE td Q R T TK W WK Z ZK r.2 ∧ zb_fr zb_ZUM s r.2) (fun m b v => F_Mo_unlikes_b29 (F_Mo_unlikes_b16 n) m (0 : Int32) (zb_n (zb_ua P T a + zb_ur P a b)) (zb_n a) (zb_n b) v) T (fun b v => zb_J1 N A B M O K LO LD LE td Q R T TK W WK Z ZK v ∧ zb_fr zb_ZUM s v ∧ a < b) ?_ ?_ ss_F (a + 1) u (by omega) (by unfold ss_F; omega) ⟨hu.1, hu.2, by omega⟩
    · rw [zb_ur0 (a + 1) (by omega), Nat.add_zero] at lp
      exact lp
    · intro m v hv
      simp only [F_Mo_unlikes_b29]
      rw [hv.1.2.1.2.2.2.2.1.1]
      refine zb_Wpos (Int32.le_refl _) (zb_Wlet ?_)
      rw [show zb_n a + (1 : Int32) = zb_n (a + 1) from zb_n_add a 1]
      exact ih v ⟨hv.1, hv.2.1⟩
    · intro m b v hb hv ihb
      simp only [F_Mo_unlikes_b29]
      rw [hv.1.2.1.2.2.2.2.1.1]
      refine zb_Wneg (by rw [zb_n_le (by omega) (by omega)]; omega) ?_
      refine zb_Wbind2 (st v hv.1 a b ha hb) (fun r hr => ?_)
      obtain ⟨r1, r2, r3⟩ := hr
      have go : ∀ z : Nat, z = zb_ua P T a + zb_ur P a (b + 1) → zb_W (F_Mo_unlikes_b70 (F_Mo_unlikes_b16 n) (F_Mo_unlikes_b29 (F_Mo_unlikes_b16 n) m) (0 : Int32) (zb_n z) (zb_n a) (zb_n b) r.2) (fun r => r.1 = zb_n (zb_ua P T T) ∧ zb_J1 N A B M O K LO LD LE td Q R T TK W WK Z ZK r.2 ∧ zb_fr zb_ZUM s r.2) := by
        intro z hz
        unfold F_Mo_unlikes_b70
        refine zb_Wlet ?_
        rw [show zb_n b + (1 : Int32) = zb_n (b + 1) from zb_n_add b 1, hz]
        exact ihb r.2 ⟨r2, zb_fr_trans hv.2.1 r3, by omega⟩
      rw [r1]
      cases e : P a b with
      | false => exact zb_Wpos rfl (go _ (by rw [zb_ur_s hv.2.2, e]; rfl))
      | true =>
        refine zb_Wneg (by decide) (zb_Wpos (Int32.le_refl _) (zb_Wlet ?_))
        rw [show zb_n (zb_ua P T a + zb_ur P a b) + (1 : Int32) = zb_n (zb_ua P T a + zb_ur P a b + 1) from zb_n_add _ 1]
        exact go _ (by rw [zb_ur_s hv.2.2, e]; rfl)
theorem zb_first_M (h : zb_J1 N A B M O K LO LD LE td Q R T TK W WK Z ZK s) {x : Nat} (hx : x = 1 ∨ x = 2) : zb_W (F_Mo_unlikes_b16 ss_F (zb_n x) (0 : Int32) (0 : Int32) s) (fun r => (∃ o, zb_first (zb_unl K LO LD LE R TK) T o ∧ r.1 = zb_fv x o) ∧ zb_J1 N A B M O K LO LD LE td Q R T TK W WK Z ZK r.2 ∧ zb_fr zb_ZUM s r.2) := by
  have h80 := h.1.2.2.2.1
  have st := fun (u : sv_S) (hu : zb_J1 N A B M O K LO LD LE td Q R T TK W WK Z ZK u) (a b : Nat) (ha : a < T) (hb : b < T) => zb_unlike_M hu ha hb
  generalize zb_unl K LO LD LE R TK = P at *
  have x0 : ¬ zb_n x = (0 : Int32) := by rcases hx with rfl | rfl <;> decide
  have xl : ¬ zb_n x ≤ (0 : Int32) := by rcases hx with rfl | rfl <;> decide
  refine zb_for (fun n a u => F_Mo_unlikes_b16 n (zb_n x) (0 : Int32) (zb_n a) u) T (fun a u => zb_J1 N A B M O K LO LD LE td Q R T TK W WK Z ZK u ∧ zb_fr zb_ZUM s u ∧ ∀ a' b', a' < b' → b' < T → a' < a → P a' b' = false) ?_ ?_ ss_F 0 s (by omega) (by unfold ss_F; omega) ⟨h, zb_fr_refl _ _, fun _ _ _ _ z => absurd z (by omega)⟩
  · intro n u hu
    simp only [F_Mo_unlikes_b16]
    rw [hu.1.2.1.2.2.2.2.1.1]
    exact zb_Wpos (Int32.le_refl _) (zb_Wneg x0 (zb_Wsome ⟨⟨none, Or.inl ⟨rfl, fun a b h1 h2 => hu.2.2 a b h1 h2 (by omega)⟩, rfl⟩, hu.1, hu.2.1⟩))
  · intro n a u ha hu ih
    simp only [F_Mo_unlikes_b16]
    rw [hu.1.2.1.2.2.2.2.1.1]
    refine zb_Wneg (by rw [zb_n_le (by omega) (by omega)]; omega) (zb_Wlet ?_)
    rw [show zb_n a + (1 : Int32) = zb_n (a + 1) from zb_n_add a 1]
    refine zb_for (fun m b v => F_Mo_unlikes_b29 (F_Mo_unlikes_b16 n) m (zb_n x) (0 : Int32) (zb_n a) (zb_n b) v) T (fun b v => zb_J1 N A B M O K LO LD LE td Q R T TK W WK Z ZK v ∧ zb_fr zb_ZUM s v ∧ a < b ∧ ∀ a' b', a' < b' → b' < T → (a' < a ∨ (a' = a ∧ b' < b)) → P a' b' = false) ?_ ?_ ss_F (a + 1) u (by omega) (by unfold ss_F; omega) ⟨hu.1, hu.2.1, by omega, fun a' b' h1 h2 h3 => hu.2.2 a' b' h1 h2 (by omega)⟩
    · intro m v hv
      simp only [F_Mo_unlikes_b29]
      rw [hv.1.2.1.2.2.2.2.1.1]
      refine zb_Wpos (Int32.le_refl _) (zb_Wlet ?_)
      rw [show zb_n a + (1 : Int32) = zb_n (a + 1) from zb_n_add a 1]
      exact ih v ⟨hv.1, hv.2.1, fun a' b' h1 h2 h3 => hv.2.2.2 a' b' h1 h2 (by omega)⟩
    · intro m b v hb hv ihb
      simp only [F_Mo_unlikes_b29]
      rw [hv.1.2.1.2.2.2.2.1.1]
      refine zb_Wneg (by rw [zb_n_le (by omega) (by omega)]; omega) ?_
      refine zb_Wbind2 (st v hv.1 a b ha hb) (fun r hr => ?_)
      obtain ⟨r1, r2, r3⟩ := hr
      rw [r1]
      cases e : P a b with
      | false =>
        refine zb_Wpos rfl ?_
        unfold F_Mo_unlikes_b70
        refine zb_Wlet ?_
        rw [show zb_n b + (1 : Int32) = zb_n (b + 1) from zb_n_add b 1]
        refine ihb r.2 ⟨r2, zb_fr_trans hv.2.1 r3, by omega, fun a' b' h1 h2 h3 => ?_⟩
        by_cases z : a' = a ∧ b' = b
        · rw [z.1, z.2]; exact e
        · exact hv.2.2.2 a' b' h1 h2 (by omega)
      | true =>
        have fo : zb_first P T (some (a, b)) := Or.inr ⟨a, b, rfl, hv.2.2.1, hb, e, hv.2.2.2⟩
        refine zb_Wneg (by decide) (zb_Wneg xl ?_)
        rcases hx with rfl | rfl
        · exact zb_Wpos rfl (zb_Wsome ⟨⟨_, fo, rfl⟩, r2, zb_fr_trans hv.2.1 r3⟩)
        · exact zb_Wneg (by decide) (zb_Wsome ⟨⟨_, fo, rfl⟩, r2, zb_fr_trans hv.2.1 r3⟩)
theorem zb_c_unlikes (h : zb_J s) : zb_m11 (F_X_unlikes x1 s) (F_Mo_unlikes x1) s := by
  obtain ⟨N, A, B, M, O, K, LO, LD, LE, td, Q, R, T, TK, W, WK, Z, ZK, h⟩ := h
  have hj := zb_J_of h
  have z1 : (x1 < (0 : Int32)) = (x1.toInt < 0) := by rw [show (0 : Int32) = zb_n 0 from rfl]; exact zb_c_ltn (by omega)
  have z2 : (x1 ≤ (2 : Int32)) = (x1.toInt ≤ 2) := by rw [show (2 : Int32) = zb_n 2 from rfl]; exact zb_c_len (by omega)
  have t0 : (0 : Int32).toInt = 0 := by decide
  have t2 : (2 : Int32).toInt = 2 := by decide
  have mg : ∀ u, F_Mo_unlikes x1 u = if ¬ (0 ≤ x1.toInt ∧ x1.toInt ≤ 2) then some ((-1 : Int32), u) else F_Mo_unlikes_b16 ss_F x1 (0 : Int32) (0 : Int32) u := by
    intro u
    simp only [F_Mo_unlikes, zb_h_inL, t0, t2, Option.bind_some, zb_bz]
  by_cases q : 0 ≤ x1.toInt ∧ x1.toInt ≤ 2
  rotate_left
  · refine zb_m11_no (v := (-1 : Int32)) hj ?_ (by rw [mg, if_pos q])
    simp only [F_X_unlikes, z1, z2]
    by_cases w : x1.toInt < 0
    · rw [if_pos w]
    · rw [if_neg w, if_neg (by omega)]
  simp only [if_neg (not_not_intro q)] at mg
  unfold zb_m11
  simp only [F_X_unlikes, z1, z2]
  rw [if_neg (by omega), if_pos q.2]
  obtain ⟨x, hx, rfl⟩ := zb_an2 q
  have ex : x = 0 ∨ x = 1 ∨ x = 2 := by omega
  -- first ones
  have two : ∀ (y : Nat) (r : Int32 × sv_S), (y = 1 ∨ y = 2) → ((∃ o, zb_first (zb_unl K LO LD LE R TK) T o ∧ r.1 = zb_fv y o) ∧ zb_J1 N A B M O K LO LD LE td Q R T TK W WK Z ZK r.2 ∧ zb_fx zb_ZUX s r.2) → zb_keep s r.2 ∧ zb_W (F_Mo_unlikes_b16 ss_F (zb_n y) (0 : Int32) (0 : Int32) r.2) (fun q => q.1 = r.1 ∧ zb_J q.2 ∧ zb_keep s q.2) := by
    intro y r hy hr
    obtain ⟨⟨o, o1, o2⟩, r2, r3⟩ := hr
    refine ⟨zb_keep_fx r3 rfl, zb_Wmono (zb_first_M r2 hy) (fun q hq => ?_)⟩
    obtain ⟨⟨o', p1, p2⟩, q2, q3⟩ := hq
    refine ⟨?_, zb_J_of q2, zb_keep_trans (zb_keep_fx r3 rfl) (zb_keep_fr q3 rfl)⟩
    rw [p2, o2, zb_first_u o1 p1]
  rcases ex with rfl | rfl | rfl
  · refine zb_Wpos rfl ?_
    refine zb_Wbind2 (zb_count_X h) (fun r hr => zb_Wsome ⟨zb_keep_fx hr.2.2 rfl, ?_⟩)
    dsimp only
    rw [mg]
    exact zb_Wmono (zb_count_M hr.2.1) (fun q hq => ⟨hq.1.trans hr.1.symm, zb_J_of hq.2.1, zb_keep_trans (zb_keep_fx hr.2.2 rfl) (zb_keep_fr hq.2.2 rfl)⟩)
  · refine zb_Wneg (by decide) (zb_Wneg (by decide) ?_)
    refine zb_Wbind2 (zb_first_X h (x := 1) (Or.inl rfl)) (fun r hr => zb_Wsome ?_)
    have := two 1 r (Or.inl rfl) hr
    rw [← mg] at this
    exact this
  · refine zb_Wneg (by decide) (zb_Wpos rfl ?_)
    refine zb_Wbind2 (zb_first_X h (x := 2) (Or.inr rfl)) (fun r hr => zb_Wsome ?_)
    have := two 2 r (Or.inr rfl) hr
    rw [← mg] at this
    exact this
end ULS
