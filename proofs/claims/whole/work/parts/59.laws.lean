/-! laws in force, and what they say: the model -/
def zb_lo (LO LD : Nat → Int) (o d : Int) : Nat → Int
  | 0 => -1
  | k + 1 => if LO k = o ∧ LD k ≤ d ∧ (zb_lo LO LD o d k < 0 ∨ LD (zb_lo LO LD o d k).toNat ≤ LD k) then (k : Int) else zb_lo LO LD o d k
theorem zb_lo_rg {LO LD : Nat → Int} {o d : Int} : ∀ k, -1 ≤ zb_lo LO LD o d k ∧ zb_lo LO LD o d k < k
  | 0 => by simp [zb_lo]
  | k + 1 => by have := zb_lo_rg (LO := LO) (LD := LD) (o := o) (d := d) k; simp only [zb_lo]; split <;> omega
def zb_us (w : Nat) : Int := if 20 ≤ w then ((w - 20) % 10 : Nat) else if 10 ≤ w then 9999 else if w = 2 then 1 else if w = 4 then 365 else 0
def zb_v1 (LE : Nat → List zb_EF) (x : Int) (w : Nat) : Int := if x < 0 then -1 else zb_apl (LE x.toNat) (fun _ => -1) w
def zb_v (K : Nat) (LO LD : Nat → Int) (LE : Nat → List zb_EF) (o d : Int) (w : Nat) : Int :=
  if 0 ≤ zb_v1 LE (zb_lo LO LD o d K) w then zb_v1 LE (zb_lo LO LD o d K) w else if 0 ≤ zb_v1 LE (zb_lo LO LD (-1) d K) w then zb_v1 LE (zb_lo LO LD (-1) d K) w else zb_us w
def zb_L1 (LE : Nat → List zb_EF) (tag : Nat) (x : Int) : List Int32 := if x < 0 then [] else zb_lst tag (LE x.toNat) []
def zb_LM (K : Nat) (LO LD : Nat → Int) (LE : Nat → List zb_EF) (s : sv_S) : Prop :=
  K ≤ 16 ∧ s.1 187 10 = zb_n K ∧ ∀ k, k < K → (-1 ≤ LO k ∧ LO k ≤ 5 ∧ 0 ≤ LD k ∧ LD k ≤ 9999) ∧ s.1 195 k = zb_i (LO k) ∧ s.1 196 k = zb_i (LD k) ∧ ∃ n, n ≤ 140 ∧ s.1 198 k = zb_n n ∧ (zb_cls (fun i => s.1 197 (140 * k + i)) n 10 0).1 = true ∧ (zb_cls (fun i => s.1 197 (140 * k + i)) n 10 0).2.2 = LE k
def zb_ZL : List Nat := [187025, 187026, 187029, 187030, 187031, 203, 204, 199, 200, 201, 187019, 187020, 187021, 187023, 187024]
section LWS
variable {K : Nat} {LO LD : Nat → Int} {LE : Nat → List zb_EF} {s : sv_S}
theorem zb_LM_fr {M : List Nat} {u : sv_S} (h : zb_LM K LO LD LE s) (hf : zb_fr M s u) (hM : [187010, 195, 196, 197, 198].all (fun x => !M.contains x) = true) : zb_LM K LO LD LE u := by
  have k : ∀ x, x ∈ [187010, 195, 196, 197, 198] → M.contains x = false := fun x hx => by have := List.all_eq_true.mp hM x hx; simpa using this
  refine ⟨h.1, (hf.1 187 10 (k 187010 (by decide))).trans h.2.1, fun j hj => ?_⟩
  obtain ⟨h1, h2, h3, n, h4, h5, h6, h7⟩ := h.2.2 j hj
  have e : (fun i => u.1 197 (140 * j + i)) = (fun i => s.1 197 (140 * j + i)) := by funext i; exact hf.1 197 _ (k 197 (by decide))
  refine ⟨h1, (hf.1 195 j (k 195 (by decide))).trans h2, (hf.1 196 j (k 196 (by decide))).trans h3, n, h4, (hf.1 198 j (k 198 (by decide))).trans h5, ?_, ?_⟩
  · rw [e]; exact h6
  · rw [e]; exact h7
theorem zb_LM_ok (h : zb_LM K LO LD LE s) {k : Nat} (hk : k < K) : ∀ e, e ∈ LE k → zb_eok e := by
  obtain ⟨h1, h2, h3, n, h4, h5, h6, h7⟩ := h.2.2 k hk
  rw [← h7]
  exact zb_cls_ok h4 10 0 (by omega) h6
theorem zb_v1_rg (h : zb_LM K LO LD LE s) {x : Int} (hx : x < K) (w : Nat) : -1 ≤ zb_v1 LE x w ∧ zb_v1 LE x w ≤ 9999 ∧ (w = 6 → zb_v1 LE x w ≤ 1) ∧ (20 ≤ w → zb_v1 LE x w ≤ 9) := by
  unfold zb_v1
  by_cases q : x < 0
  · rw [if_pos q]; omega
  · rw [if_neg q]
    exact zb_apl_rg _ (zb_LM_ok h (by omega)) _ (fun w => by omega) w
theorem zb_us_rg (w : Nat) : 0 ≤ zb_us w ∧ zb_us w ≤ 9999 ∧ (w = 6 → zb_us w ≤ 1) ∧ (20 ≤ w → zb_us w ≤ 9) := by
  unfold zb_us
  split
  · have : (w - 20) % 10 < 10 := Nat.mod_lt _ (by omega)
    omega
  · split
    · omega
    · split
      · omega
      · split <;> omega
theorem zb_v_rg (h : zb_LM K LO LD LE s) (o d : Int) (w : Nat) : 0 ≤ zb_v K LO LD LE o d w ∧ zb_v K LO LD LE o d w ≤ 9999 ∧ (w = 6 → zb_v K LO LD LE o d w ≤ 1) ∧ (20 ≤ w → zb_v K LO LD LE o d w ≤ 9) := by
  have a1 := zb_v1_rg h (zb_lo_rg (LO := LO) (LD := LD) (o := o) (d := d) K).2 w
  have a2 := zb_v1_rg h (zb_lo_rg (LO := LO) (LD := LD) (o := -1) (d := d) K).2 w
  have a3 := zb_us_rg w
  unfold zb_v
  split
  · omega
  · split
    · omega
    · exact a3
theorem zb_lawOn (h : zb_LM K LO LD LE s) {o d : Int} (ho : -1 ≤ o) (ho5 : o ≤ 5) (hd : 0 ≤ d) (hd9 : d ≤ 9999) : zb_W (F_Mo_lawOn (zb_i o) (zb_i d) s) (fun r => r = zb_i (zb_lo LO LD o d K)) := by
  have hK := h.1
  unfold F_Mo_lawOn
  rw [zb_m1]
  refine zb_for0 (fun n k => F_Mo_lawOn_b5 s n (zb_i o) (zb_i d) (zb_i (zb_lo LO LD o d k)) (zb_n k)) K (fun _ => True) ?_ ?_ ss_F 0 (by omega) (by unfold ss_F; omega) trivial
  · intro n _
    simp only [F_Mo_lawOn_b5]
    exact zb_Wpos (by rw [h.2.1]; exact Int32.le_refl _) (zb_Wsome rfl)
  · intro n k hk _ ih
    have ih := ih trivial
    obtain ⟨⟨a1, a2, a3, a4⟩, h2, h3, _⟩ := h.2.2 k hk
    have g := zb_lo_rg (LO := LO) (LD := LD) (o := o) (d := d) k
    have no : ¬ (LO k = o ∧ LD k ≤ d ∧ (zb_lo LO LD o d k < 0 ∨ LD (zb_lo LO LD o d k).toNat ≤ LD k)) → zb_W (F_Mo_lawOn_b59 s (F_Mo_lawOn_b5 s n) (zb_i o) (zb_i d) (zb_i (zb_lo LO LD o d k)) (zb_n k)) (fun r => r = zb_i (zb_lo LO LD o d K)) := by
      intro q
      unfold F_Mo_lawOn_b59
      refine zb_Wlet ?_
      simp (disch := omega) only [zb_lit, zb_n_add, zb_n_mul, zb_n_ix, zb_n_lt, zb_n_le, zb_n_eq, zb_ib_n]
      simp only [zb_lo] at ih
      rw [if_neg q] at ih
      exact ih
    have yes : (LO k = o ∧ LD k ≤ d ∧ (zb_lo LO LD o d k < 0 ∨ LD (zb_lo LO LD o d k).toNat ≤ LD k)) → zb_W (F_Mo_lawOn_b56 s (F_Mo_lawOn_b5 s n) (zb_i o) (zb_i d) (zb_n k)) (fun r => r = zb_i (zb_lo LO LD o d K)) := by
      intro q
      unfold F_Mo_lawOn_b56 F_Mo_lawOn_b59
      refine zb_Wlet ?_
      simp (disch := omega) only [zb_lit, zb_n_add, zb_n_mul, zb_n_ix, zb_n_lt, zb_n_le, zb_n_eq, zb_ib_n]
      simp only [zb_lo] at ih
      rw [if_pos q, ← zb_n_i] at ih
      exact ih
    simp only [F_Mo_lawOn_b5]
    rw [h.2.1]
    refine zb_Wneg (by first | omega | (simp (disch := omega) only [zb_lit, zb_n_add, zb_n_mul, zb_n_ix, zb_n_lt, zb_n_le, zb_n_eq, zb_ib_n] <;> omega)) ?_
    refine zb_Wpos (by first | omega | (simp (disch := omega) only [zb_lit, zb_n_add, zb_n_mul, zb_n_ix, zb_n_lt, zb_n_le, zb_n_eq, zb_ib_n] <;> omega)) ?_
    simp (disch := omega) only [zb_lit, zb_n_add, zb_n_mul, zb_n_ix, zb_n_lt, zb_n_le, zb_n_eq, zb_ib_n, h2, h3, zb_i_eq, zb_i_lt]
    refine zb_Wif (fun q1 => ?_) (fun q1 => no (fun z => q1 z.1))
    refine zb_Wpos (by first | omega | (simp (disch := omega) only [zb_lit, zb_n_add, zb_n_mul, zb_n_ix, zb_n_lt, zb_n_le, zb_n_eq, zb_ib_n] <;> omega)) ?_
    refine zb_Wif (fun q2 => no (fun z => by omega)) (fun q2 => ?_)
    have z0 : (zb_i (zb_lo LO LD o d k) < zb_n 0) = (zb_lo LO LD o d k < 0) := by rw [zb_n_i]; exact zb_i_lt (by omega) (by omega) (by omega) (by omega)
    simp only [z0]
    refine zb_Wif (fun q3 => yes ⟨q1, by omega, Or.inl q3⟩) (fun q3 => ?_)
    have e : zb_i (zb_lo LO LD o d k) = zb_n (zb_lo LO LD o d k).toNat := by rw [zb_n_i, Int.toNat_of_nonneg (by omega)]
    obtain ⟨⟨b1, b2, b3, b4⟩, _, hb3, _⟩ := h.2.2 (zb_lo LO LD o d k).toNat (by omega)
    refine zb_Wpos (by first | omega | (simp (disch := omega) only [zb_lit, zb_n_add, zb_n_mul, zb_n_ix, zb_n_lt, zb_n_le, zb_n_eq, zb_ib_n] <;> omega)) ?_
    rw [e]
    refine zb_Wpos (by first | omega | (simp (disch := omega) only [zb_lit, zb_n_add, zb_n_mul, zb_n_ix, zb_n_lt, zb_n_le, zb_n_eq, zb_ib_n] <;> omega)) ?_
    simp (disch := omega) only [zb_lit, zb_n_add, zb_n_mul, zb_n_ix, zb_n_lt, zb_n_le, zb_n_eq, zb_ib_n, hb3, zb_i_lt]
    rw [← e]
    refine zb_Wif (fun q4 => no (fun z => by rcases z.2.2 with w | w <;> omega)) (fun q4 => yes ⟨q1, by omega, Or.inr (by omega)⟩)
/-- a stored text is read again -/
theorem zb_goes (h : zb_LM K LO LD LE s) {k : Nat} (hk : k < K) : zb_W (F_Mo_goes (zb_n k) s) (fun r => r.1 = zb_n 1 ∧ zb_fr zb_ZL s r.2 ∧ zb_EL s r.2 (LE k)) := by
  have hK := h.1
  obtain ⟨_, _, _, n, hn, h5, h6, h7⟩ := h.2.2 k hk
  unfold F_Mo_goes
  refine zb_Wlet ?_
  refine zb_Wpos (by first | omega | (simp (disch := omega) only [zb_lit, zb_n_add, zb_n_mul, zb_n_ix, zb_n_lt, zb_n_le, zb_n_eq, zb_ib_n] <;> omega)) ?_
  have e198 : (ss_setI s 187 23 ((140 : Int32) * zb_n k)).1 198 k = zb_n n := (zb_set_ne (by omega)).trans h5
  refine zb_Wlet ?_
  rw [zb_n_ix (by omega), e198]
  refine zb_Wlet ?_
  have em : (140 : Int32) * zb_n k = zb_n (140 * k) := zb_n_mul 140 k
  rw [em]
  have f : zb_fr zb_ZL s (ss_setI (ss_setI (ss_setI s 187 23 (zb_n (140 * k))) 187 24 (zb_n n)) 187 25 0) := zb_fr_set (zb_fr_set (zb_fr_set (zb_fr_refl _ _) rfl) rfl) rfl
  have hM : zb_MT (fun i => s.1 197 (140 * k + i)) n 0 (140 * k) (ss_setI (ss_setI (ss_setI s 187 23 (zb_n (140 * k))) 187 24 (zb_n n)) 187 25 0) := by
    refine ⟨⟨hn, by omega, by omega⟩, ?_, ?_, zb_set_eq, fun i hi => ?_⟩
    · rw [zb_set_ne (by omega), zb_set_ne (by omega), zb_set_eq]
    · rw [zb_set_ne (by omega), zb_set_eq]
    · rw [zb_set_ne (by omega), zb_set_ne (by omega), zb_set_ne (by omega)]
  have f202 : (ss_setI (ss_setI (ss_setI s 187 23 (zb_n (140 * k))) 187 24 (zb_n n)) 187 25 0).1 202 = s.1 202 := by funext j; exact f.1 202 j rfl
  have fv : ∀ V sm ex, zb_MV V sm ex s → zb_MV V sm ex (ss_setI (ss_setI (ss_setI s 187 23 (zb_n (140 * k))) 187 24 (zb_n n)) 187 25 0) := by
    intro V sm ex hV
    have f3 : zb_fr [187023, 187024, 187025] s (ss_setI (ss_setI (ss_setI s 187 23 (zb_n (140 * k))) 187 24 (zb_n n)) 187 25 0) := zb_fr_set (zb_fr_set (zb_fr_set (zb_fr_refl _ _) rfl) rfl) rfl
    refine ⟨fun j hj => ?_, ?_, fun j hj => ?_, fun j hj => ?_, ?_, ?_⟩
    · rw [f3.1 201 j rfl]; exact hV.1 j hj
    · rw [f3.1 187 19 rfl]; exact hV.2.1
    · rw [f3.1 200 j rfl]; exact hV.2.2.1 j hj
    · rw [f3.1 199 j rfl]; exact hV.2.2.2.1 j hj
    · rw [f3.1 187 20 rfl]; exact hV.2.2.2.2.1
    · rw [f3.1 187 21 rfl]; exact hV.2.2.2.2.2
  refine zb_Wmono (zb_M_goes 10 ss_F 0 0 _ (by omega) (by omega) (by unfold ss_F; omega) hM) (fun r hr => ?_)
  obtain ⟨r1, r2, r3, r4⟩ := hr
  rw [h6] at r1
  have r3 := r3 h6
  rw [h7] at r3
  refine ⟨r1, zb_fr_trans f (zb_fr_mono r2 (by decide)), fun V sm ex hV => ?_⟩
  have := r3 V sm ex (fv V sm ex hV)
  rw [f202] at this
  exact this
theorem zb_clean : zb_W (F_Mo_clean s) (fun r => zb_fr [199, 200, 201, 187019, 187020, 187021] s r ∧ zb_MV zb_us true false r) := by
  unfold F_Mo_clean
  refine zb_for (fun n k s => F_Mo_clean_b2 n (zb_n k) s) 20 (fun k u => zb_fr [199, 200, 201, 187019, 187020, 187021] s u ∧ ∀ j, j < k → u.1 199 j = zb_i (zb_us (20 + j))) ?_ ?_ ss_F 0 s (by omega) (by unfold ss_F; omega) ⟨zb_fr_refl _ _, fun j hj => absurd hj (by omega)⟩
  · intro n u hI
    simp only [F_Mo_clean_b2]
    refine zb_Wpos (by first | omega | (simp (disch := omega) only [zb_lit, zb_n_add, zb_n_mul, zb_n_ix, zb_n_lt, zb_n_le, zb_n_eq, zb_ib_n] <;> omega)) ?_
    refine zb_for (fun n k s => F_Mo_clean_b26 n (zb_n k) s) 10 (fun k v => zb_fr [199, 200, 201, 187019, 187020, 187021] s v ∧ (∀ j, j < 20 → v.1 199 j = zb_i (zb_us (20 + j))) ∧ ∀ j, j < k → v.1 200 j = zb_i (zb_us (10 + j))) ?_ ?_ ss_F 0 u (by omega) (by unfold ss_F; omega) ⟨hI.1, hI.2, fun j hj => absurd hj (by omega)⟩
    · intro n v hv
      simp only [F_Mo_clean_b26]
      refine zb_Wpos (by first | omega | (simp (disch := omega) only [zb_lit, zb_n_add, zb_n_mul, zb_n_ix, zb_n_lt, zb_n_le, zb_n_eq, zb_ib_n] <;> omega)) ?_
      refine zb_Wpos (by decide) (zb_Wlet (zb_Wpos (by decide) (zb_Wlet (zb_Wpos (by decide) (zb_Wlet (zb_Wpos (by decide) (zb_Wlet (zb_Wpos (by decide) (zb_Wlet (zb_Wlet (zb_Wlet (zb_Wlet (zb_Wsome ?_)))))))))))))
      have i0 : (0 : Int32).toNatClampNeg = 0 := zb_n_ix (k := 0) (by omega)
      have i1 : (1 : Int32).toNatClampNeg = 1 := zb_n_ix (k := 1) (by omega)
      have i2 : (2 : Int32).toNatClampNeg = 2 := zb_n_ix (k := 2) (by omega)
      have i3 : (3 : Int32).toNatClampNeg = 3 := zb_n_ix (k := 3) (by omega)
      have i4 : (4 : Int32).toNatClampNeg = 4 := zb_n_ix (k := 4) (by omega)
      rw [i0, i1, i2, i3, i4]
      refine ⟨zb_fr_set (zb_fr_set (zb_fr_set (zb_fr_set (zb_fr_set (zb_fr_set (zb_fr_set (zb_fr_set hv.1 rfl) rfl) rfl) rfl) rfl) rfl) rfl) rfl, fun j hj => ?_, ?_, fun j hj => ?_, fun j hj => ?_, ?_, ?_⟩
      · have : j = 0 ∨ j = 1 ∨ j = 2 ∨ j = 3 ∨ j = 4 := by omega
        rcases this with rfl | rfl | rfl | rfl | rfl
        · rw [zb_set_ne (by omega), zb_set_ne (by omega), zb_set_ne (by omega), zb_set_ne (by omega), zb_set_ne (by omega), zb_set_ne (by omega), zb_set_ne (by omega), zb_set_eq]; decide
        · rw [zb_set_ne (by omega), zb_set_ne (by omega), zb_set_ne (by omega), zb_set_ne (by omega), zb_set_ne (by omega), zb_set_ne (by omega), zb_set_eq]; decide
        · rw [zb_set_ne (by omega), zb_set_ne (by omega), zb_set_ne (by omega), zb_set_ne (by omega), zb_set_ne (by omega), zb_set_eq]; decide
        · rw [zb_set_ne (by omega), zb_set_ne (by omega), zb_set_ne (by omega), zb_set_ne (by omega), zb_set_eq]; decide
        · rw [zb_set_ne (by omega), zb_set_ne (by omega), zb_set_ne (by omega), zb_set_eq]; decide
      · rw [zb_set_ne (by omega), zb_set_ne (by omega), zb_set_eq]; decide
      · rw [zb_set_ne (by omega), zb_set_ne (by omega), zb_set_ne (by omega), zb_set_ne (by omega), zb_set_ne (by omega), zb_set_ne (by omega), zb_set_ne (by omega), zb_set_ne (by omega)]; exact hv.2.2 j hj
      · rw [zb_set_ne (by omega), zb_set_ne (by omega), zb_set_ne (by omega), zb_set_ne (by omega), zb_set_ne (by omega), zb_set_ne (by omega), zb_set_ne (by omega), zb_set_ne (by omega)]; exact hv.2.1 j hj
      · rw [zb_set_ne (by omega), zb_set_eq]; rfl
      · rw [zb_set_eq]; rfl
    · intro n k v hk hv ih
      simp only [F_Mo_clean_b26]
      refine zb_Wneg (by first | omega | (simp (disch := omega) only [zb_lit, zb_n_add, zb_n_mul, zb_n_ix, zb_n_lt, zb_n_le, zb_n_eq, zb_ib_n] <;> omega)) ?_
      refine zb_Wpos (by first | omega | (simp (disch := omega) only [zb_lit, zb_n_add, zb_n_mul, zb_n_ix, zb_n_lt, zb_n_le, zb_n_eq, zb_ib_n] <;> omega)) ?_
      refine zb_Wlet (zb_Wlet ?_)
      simp (disch := omega) only [zb_lit, zb_n_add, zb_n_mul, zb_n_ix, zb_n_lt, zb_n_le, zb_n_eq, zb_ib_n]
      refine ih _ ⟨zb_fr_set hv.1 rfl, fun j hj => (zb_set_ne (by omega)).trans (hv.2.1 j hj), fun j hj => ?_⟩
      by_cases q : j = k
      · subst q; rw [zb_set_eq]; unfold zb_us; rw [if_neg (by omega), if_pos (by omega)]; exact zb_n_i 9999
      · rw [zb_set_ne (by omega)]; exact hv.2.2 j (by omega)
  · intro n k v hk hv ih
    simp only [F_Mo_clean_b2]
    refine zb_Wneg (by first | omega | (simp (disch := omega) only [zb_lit, zb_n_add, zb_n_mul, zb_n_ix, zb_n_lt, zb_n_le, zb_n_eq, zb_ib_n] <;> omega)) ?_
    refine zb_Wpos (by first | omega | (simp (disch := omega) only [zb_lit, zb_n_add, zb_n_mul, zb_n_ix, zb_n_lt, zb_n_le, zb_n_eq, zb_ib_n] <;> omega)) ?_
    refine zb_Wlet (zb_Wlet ?_)
    simp (disch := omega) only [zb_lit, zb_n_add, zb_n_mul, zb_n_ix, zb_n_lt, zb_n_le, zb_n_eq, zb_ib_n, zb_n_div, zb_n_sub]
    refine ih _ ⟨zb_fr_set hv.1 rfl, fun j hj => ?_⟩
    by_cases q : j = k
    · subst q; rw [zb_set_eq]; unfold zb_us; rw [if_pos (by omega), zb_n_i]; congr 1; omega
    · rw [zb_set_ne (by omega)]; exact hv.2 j (by omega)
theorem zb_MV_congr {V U : Nat → Int} {sm ex : Bool} (h : zb_MV V sm ex s) (e : ∀ w, V w = U w) : zb_MV U sm ex s := by
  have : V = U := funext e
  rw [← this]; exact h
/-- what holds for an owner on a day -/
theorem zb_look (h : zb_LM K LO LD LE s) {o d : Int} (ho : -1 ≤ o) (ho5 : o ≤ 5) (hd : 0 ≤ d) (hd9 : d ≤ 9999) : zb_W (F_Mo_look (zb_i o) (zb_i d) s) (fun r => zb_fr zb_ZL s r ∧ ∃ sm ex, zb_MV (zb_v K LO LD LE o d) sm ex r ∧ (o = -1 → sm = zb_hd (s.1 202) (zb_L1 LE 1 (zb_lo LO LD (-1) d K)) true ∧ ex = zb_hd (s.1 202) (zb_L1 LE 2 (zb_lo LO LD (-1) d K)) false)) := by
  have gc := zb_lo_rg (LO := LO) (LD := LD) (o := -1) (d := d) K
  have go := zb_lo_rg (LO := LO) (LD := LD) (o := o) (d := d) K
  have hK := h.1
  unfold F_Mo_look
  refine zb_Wbind2 (zb_clean (s := s)) (fun u hu => ?_)
  obtain ⟨u1, u2⟩ := hu
  have fu : zb_fr zb_ZL s u := zb_fr_mono u1 (by decide)
  have hu := zb_LM_fr h fu (by decide)
  have e202 : ∀ {w : sv_S}, zb_fr zb_ZL s w → w.1 202 = s.1 202 := fun f => by funext j; exact f.1 202 j rfl
  rw [zb_m1]
  refine zb_Wbind2 (zb_lawOn hu (o := -1) (by omega) (by omega) hd hd9) (fun r hr => ?_)
  subst hr
  -- values behind the court's law
  have b28 : ∀ (w : sv_S) (sm ex : Bool) (V : Nat → Int), zb_fr zb_ZL s w → zb_MV V sm ex w → (∀ k, V k = if 0 ≤ zb_v1 LE (zb_lo LO LD (-1) d K) k then zb_v1 LE (zb_lo LO LD (-1) d K) k else zb_us k) → sm = zb_hd (s.1 202) (zb_L1 LE 1 (zb_lo LO LD (-1) d K)) true → ex = zb_hd (s.1 202) (zb_L1 LE 2 (zb_lo LO LD (-1) d K)) false →
      zb_W (F_Mo_look_b28 (zb_i o) (zb_i d) (1 : Int32) w) (fun r => zb_fr zb_ZL s r ∧ ∃ sm ex, zb_MV (zb_v K LO LD LE o d) sm ex r ∧ (o = -1 → sm = zb_hd (s.1 202) (zb_L1 LE 1 (zb_lo LO LD (-1) d K)) true ∧ ex = zb_hd (s.1 202) (zb_L1 LE 2 (zb_lo LO LD (-1) d K)) false)) := by
    intro w sm ex V fw hV eV esm eex
    have hw := zb_LM_fr h fw (by decide)
    unfold F_Mo_look_b28
    by_cases q : o = -1
    · refine zb_Wneg (by rw [q]; decide) ?_
      unfold F_Mo_look_b44
      refine zb_Wneg (by decide) (zb_Wpos (by decide) (zb_Wsome ⟨fw, sm, ex, zb_MV_congr hV (fun k => ?_), fun _ => ⟨esm, eex⟩⟩))
      rw [eV k]; unfold zb_v; subst q; split
      · rfl
      · rfl
    · refine zb_Wpos (zb_ge0 (by omega) (by omega)) ?_
      refine zb_Wbind2 (zb_lawOn hw (o := o) (by omega) (by omega) hd hd9) (fun r hr => ?_)
      subst hr
      unfold F_Mo_look_b44
      refine zb_Wneg (by decide) ?_
      by_cases q2 : zb_lo LO LD o d K < 0
      · refine zb_Wpos (by rw [show (0 : Int32) = zb_i 0 from zb_n_i 0, zb_i_lt (by omega) (by omega) (by omega) (by omega)]; exact q2) (zb_Wsome ⟨fw, sm, ex, zb_MV_congr hV (fun k => ?_), fun z => absurd z q⟩)
        rw [eV k]; unfold zb_v
        have : zb_v1 LE (zb_lo LO LD o d K) k = -1 := by unfold zb_v1; rw [if_pos q2]
        rw [this, if_neg (show ¬ (0 : Int) ≤ -1 by omega)]
      · refine zb_Wneg (by rw [show (0 : Int32) = zb_i 0 from zb_n_i 0, zb_i_lt (by omega) (by omega) (by omega) (by omega)]; exact q2) ?_
        have e : zb_i (zb_lo LO LD o d K) = zb_n (zb_lo LO LD o d K).toNat := by rw [zb_n_i, Int.toNat_of_nonneg (by omega)]
        rw [e]
        refine zb_Wbind2 (zb_goes hw (by omega)) (fun r hr => zb_Wsome ?_)
        obtain ⟨r1, r2, r3⟩ := hr
        refine ⟨zb_fr_trans fw r2, _, _, zb_MV_congr (r3 V sm ex hV) (fun k => ?_), fun z => absurd z q⟩
        have A := zb_apl_or _ (zb_LM_ok h (k := (zb_lo LO LD o d K).toNat) (by omega)) (fun _ => -1) V k (Or.inl (by show (-1 : Int) < 0; omega))
        have e1 : zb_v1 LE (zb_lo LO LD o d K) k = zb_apl (LE (zb_lo LO LD o d K).toNat) (fun _ => -1) k := by unfold zb_v1; rw [if_neg q2]
        unfold zb_v
        rw [e1, ← eV k]
        rcases A with ⟨A1, A2⟩ | ⟨A1, A2⟩
        · rw [if_pos A1]; exact A2
        · rw [if_neg (by omega)]; exact A2
  by_cases q : zb_lo LO LD (-1) d K < 0
  · refine zb_Wpos (by rw [show (0 : Int32) = zb_i 0 from zb_n_i 0, zb_i_lt (by omega) (by omega) (by omega) (by omega)]; exact q) ?_
    unfold F_Mo_look_b23
    refine b28 u true false zb_us fu u2 (fun k => ?_) ?_ ?_
    · have : zb_v1 LE (zb_lo LO LD (-1) d K) k = -1 := by unfold zb_v1; rw [if_pos q]
      rw [this, if_neg (show ¬ (0 : Int) ≤ -1 by omega)]
    · unfold zb_L1 zb_hd; rw [if_pos q, if_pos rfl]
    · unfold zb_L1 zb_hd; rw [if_pos q, if_pos rfl]
  · refine zb_Wneg (by rw [show (0 : Int32) = zb_i 0 from zb_n_i 0, zb_i_lt (by omega) (by omega) (by omega) (by omega)]; exact q) ?_
    have e : zb_i (zb_lo LO LD (-1) d K) = zb_n (zb_lo LO LD (-1) d K).toNat := by rw [zb_n_i, Int.toNat_of_nonneg (by omega)]
    rw [e]
    have ok := zb_LM_ok h (k := (zb_lo LO LD (-1) d K).toNat) (by omega)
    refine zb_Wbind2 (zb_goes hu (by omega)) (fun r hr => ?_)
    obtain ⟨r1, r2, r3⟩ := hr
    refine zb_Wneg (by rw [r1]; decide) ?_
    unfold F_Mo_look_b23
    have R := r3 zb_us true false u2
    rw [e202 fu] at R
    refine b28 r.2 _ _ _ (zb_fr_trans fu r2) R (fun k => ?_) ?_ ?_
    · have A := zb_apl_or _ ok (fun _ => -1) zb_us k (Or.inl (by show (-1 : Int) < 0; omega))
      have e1 : zb_v1 LE (zb_lo LO LD (-1) d K) k = zb_apl (LE (zb_lo LO LD (-1) d K).toNat) (fun _ => -1) k := by unfold zb_v1; rw [if_neg q]
      rw [e1]
      rcases A with ⟨A1, A2⟩ | ⟨A1, A2⟩
      · rw [if_pos A1]; exact A2
      · rw [if_neg (by omega)]; exact A2
    · unfold zb_L1; rw [if_neg q]; exact zb_tgl_hd _ ok (by omega) true true [] (Or.inl ⟨rfl, rfl⟩)
    · unfold zb_L1; rw [if_neg q]; exact zb_tgl_hd _ ok (by omega) false false [] (Or.inl ⟨rfl, rfl⟩)
end LWS
