/-! laws in force, and what they say: the model -/
def sb_lo (LO LD : Nat → Int) (o d : Int) : Nat → Int
  | 0 => -1
  | k + 1 => if LO k = o ∧ LD k ≤ d ∧ (sb_lo LO LD o d k < 0 ∨ LD (sb_lo LO LD o d k).toNat ≤ LD k) then (k : Int) else sb_lo LO LD o d k
theorem sb_lo_rg {LO LD : Nat → Int} {o d : Int} : ∀ k, -1 ≤ sb_lo LO LD o d k ∧ sb_lo LO LD o d k < k
  | 0 => by simp [sb_lo]
  | k + 1 => by have := sb_lo_rg (LO := LO) (LD := LD) (o := o) (d := d) k; simp only [sb_lo]; split <;> omega
def sb_us (w : Nat) : Int := if 20 ≤ w then ((w - 20) % 10 : Nat) else if 10 ≤ w then 9999 else if w = 2 then 1 else if w = 4 then 365 else 0
def sb_v1 (LE : Nat → List sb_EF) (x : Int) (w : Nat) : Int := if x < 0 then -1 else sb_apl (LE x.toNat) (fun _ => -1) w
def sb_v (K : Nat) (LO LD : Nat → Int) (LE : Nat → List sb_EF) (o d : Int) (w : Nat) : Int :=
  if 0 ≤ sb_v1 LE (sb_lo LO LD o d K) w then sb_v1 LE (sb_lo LO LD o d K) w else if 0 ≤ sb_v1 LE (sb_lo LO LD (-1) d K) w then sb_v1 LE (sb_lo LO LD (-1) d K) w else sb_us w
def sb_L1 (LE : Nat → List sb_EF) (tag : Nat) (x : Int) : List Int32 := if x < 0 then [] else sb_lst tag (LE x.toNat) []
def sb_LM (K : Nat) (LO LD : Nat → Int) (LE : Nat → List sb_EF) (s : sv_S) : Prop :=
  K ≤ 16 ∧ s.1 187 10 = sb_n K ∧ ∀ k, k < K → (-1 ≤ LO k ∧ LO k ≤ 5 ∧ 0 ≤ LD k ∧ LD k ≤ 9999) ∧ s.1 195 k = sb_i (LO k) ∧ s.1 196 k = sb_i (LD k) ∧ ∃ n, n ≤ 140 ∧ s.1 198 k = sb_n n ∧ (sb_cls (fun i => s.1 197 (140 * k + i)) n 10 0).1 = true ∧ (sb_cls (fun i => s.1 197 (140 * k + i)) n 10 0).2.2 = LE k
def sb_ZL : List Nat := [187025, 187026, 187029, 187030, 187031, 203, 204, 199, 200, 201, 187019, 187020, 187021, 187023, 187024]
section LWS
variable {K : Nat} {LO LD : Nat → Int} {LE : Nat → List sb_EF} {s : sv_S}
theorem sb_LM_fr {M : List Nat} {u : sv_S} (h : sb_LM K LO LD LE s) (hf : sb_fr M s u) (hM : [187010, 195, 196, 197, 198].all (fun x => !M.contains x) = true) : sb_LM K LO LD LE u := by
  have k : ∀ x, x ∈ [187010, 195, 196, 197, 198] → M.contains x = false := fun x hx => by have := List.all_eq_true.mp hM x hx; simpa using this
  refine ⟨h.1, (hf.1 187 10 (k 187010 (by decide))).trans h.2.1, fun j hj => ?_⟩
  obtain ⟨h1, h2, h3, n, h4, h5, h6, h7⟩ := h.2.2 j hj
  have e : (fun i => u.1 197 (140 * j + i)) = (fun i => s.1 197 (140 * j + i)) := by funext i; exact hf.1 197 _ (k 197 (by decide))
  refine ⟨h1, (hf.1 195 j (k 195 (by decide))).trans h2, (hf.1 196 j (k 196 (by decide))).trans h3, n, h4, (hf.1 198 j (k 198 (by decide))).trans h5, ?_, ?_⟩
  · rw [e]; exact h6
  · rw [e]; exact h7
theorem sb_LM_ok (h : sb_LM K LO LD LE s) {k : Nat} (hk : k < K) : ∀ e, e ∈ LE k → sb_eok e := by
  obtain ⟨h1, h2, h3, n, h4, h5, h6, h7⟩ := h.2.2 k hk
  rw [← h7]
  exact sb_cls_ok h4 10 0 (by omega) h6
theorem sb_v1_rg (h : sb_LM K LO LD LE s) {x : Int} (hx : x < K) (w : Nat) : -1 ≤ sb_v1 LE x w ∧ sb_v1 LE x w ≤ 9999 ∧ (w = 6 → sb_v1 LE x w ≤ 1) ∧ (20 ≤ w → sb_v1 LE x w ≤ 9) := by
  unfold sb_v1
  by_cases q : x < 0
  · rw [if_pos q]; omega
  · rw [if_neg q]
    exact sb_apl_rg _ (sb_LM_ok h (by omega)) _ (fun w => by omega) w
theorem sb_us_rg (w : Nat) : 0 ≤ sb_us w ∧ sb_us w ≤ 9999 ∧ (w = 6 → sb_us w ≤ 1) ∧ (20 ≤ w → sb_us w ≤ 9) := by
  unfold sb_us
  split
  · have : (w - 20) % 10 < 10 := Nat.mod_lt _ (by omega)
    omega
  · split
    · omega
    · split
      · omega
      · split <;> omega
theorem sb_v_rg (h : sb_LM K LO LD LE s) (o d : Int) (w : Nat) : 0 ≤ sb_v K LO LD LE o d w ∧ sb_v K LO LD LE o d w ≤ 9999 ∧ (w = 6 → sb_v K LO LD LE o d w ≤ 1) ∧ (20 ≤ w → sb_v K LO LD LE o d w ≤ 9) := by
  have a1 := sb_v1_rg h (sb_lo_rg (LO := LO) (LD := LD) (o := o) (d := d) K).2 w
  have a2 := sb_v1_rg h (sb_lo_rg (LO := LO) (LD := LD) (o := -1) (d := d) K).2 w
  have a3 := sb_us_rg w
  unfold sb_v
  split
  · omega
  · split
    · omega
    · exact a3
theorem sb_lawOn (h : sb_LM K LO LD LE s) {o d : Int} (ho : -1 ≤ o) (ho5 : o ≤ 5) (hd : 0 ≤ d) (hd9 : d ≤ 9999) : sb_W (F_Mo_lawOn (sb_i o) (sb_i d) s) (fun r => r = sb_i (sb_lo LO LD o d K)) := by
  have hK := h.1
  unfold F_Mo_lawOn
  rw [sb_m1]
  refine sb_for0 (fun n k => F_Mo_lawOn_b5 s n (sb_i o) (sb_i d) (sb_i (sb_lo LO LD o d k)) (sb_n k)) K (fun _ => True) ?_ ?_ ss_F 0 (by omega) (by unfold ss_F; omega) trivial
  · intro n _
    simp only [F_Mo_lawOn_b5]
    exact sb_Wpos (by rw [h.2.1]; exact Int32.le_refl _) (sb_Wsome rfl)
  · intro n k hk _ ih
    have ih := ih trivial
    obtain ⟨⟨a1, a2, a3, a4⟩, h2, h3, _⟩ := h.2.2 k hk
    have g := sb_lo_rg (LO := LO) (LD := LD) (o := o) (d := d) k
    have no : ¬ (LO k = o ∧ LD k ≤ d ∧ (sb_lo LO LD o d k < 0 ∨ LD (sb_lo LO LD o d k).toNat ≤ LD k)) → sb_W (F_Mo_lawOn_b59 s (F_Mo_lawOn_b5 s n) (sb_i o) (sb_i d) (sb_i (sb_lo LO LD o d k)) (sb_n k)) (fun r => r = sb_i (sb_lo LO LD o d K)) := by
      intro q
      unfold F_Mo_lawOn_b59
      refine sb_Wlet ?_
      simp (disch := omega) only [sb_lit, sb_n_add, sb_n_mul, sb_n_ix, sb_n_lt, sb_n_le, sb_n_eq, sb_ib_n]
      simp only [sb_lo] at ih
      rw [if_neg q] at ih
      exact ih
    have yes : (LO k = o ∧ LD k ≤ d ∧ (sb_lo LO LD o d k < 0 ∨ LD (sb_lo LO LD o d k).toNat ≤ LD k)) → sb_W (F_Mo_lawOn_b56 s (F_Mo_lawOn_b5 s n) (sb_i o) (sb_i d) (sb_n k)) (fun r => r = sb_i (sb_lo LO LD o d K)) := by
      intro q
      unfold F_Mo_lawOn_b56 F_Mo_lawOn_b59
      refine sb_Wlet ?_
      simp (disch := omega) only [sb_lit, sb_n_add, sb_n_mul, sb_n_ix, sb_n_lt, sb_n_le, sb_n_eq, sb_ib_n]
      simp only [sb_lo] at ih
      rw [if_pos q, ← sb_n_i] at ih
      exact ih
    simp only [F_Mo_lawOn_b5]
    rw [h.2.1]
    refine sb_Wneg (by first | omega | (simp (disch := omega) only [sb_lit, sb_n_add, sb_n_mul, sb_n_ix, sb_n_lt, sb_n_le, sb_n_eq, sb_ib_n] <;> omega)) ?_
    refine sb_Wpos (by first | omega | (simp (disch := omega) only [sb_lit, sb_n_add, sb_n_mul, sb_n_ix, sb_n_lt, sb_n_le, sb_n_eq, sb_ib_n] <;> omega)) ?_
    simp (disch := omega) only [sb_lit, sb_n_add, sb_n_mul, sb_n_ix, sb_n_lt, sb_n_le, sb_n_eq, sb_ib_n, h2, h3, sb_i_eq, sb_i_lt]
    refine sb_Wif (fun q1 => ?_) (fun q1 => no (fun z => q1 z.1))
    refine sb_Wpos (by first | omega | (simp (disch := omega) only [sb_lit, sb_n_add, sb_n_mul, sb_n_ix, sb_n_lt, sb_n_le, sb_n_eq, sb_ib_n] <;> omega)) ?_
    refine sb_Wif (fun q2 => no (fun z => by omega)) (fun q2 => ?_)
    have z0 : (sb_i (sb_lo LO LD o d k) < sb_n 0) = (sb_lo LO LD o d k < 0) := by rw [sb_n_i]; exact sb_i_lt (by omega) (by omega) (by omega) (by omega)
    simp only [z0]
    refine sb_Wif (fun q3 => yes ⟨q1, by omega, Or.inl q3⟩) (fun q3 => ?_)
    have e : sb_i (sb_lo LO LD o d k) = sb_n (sb_lo LO LD o d k).toNat := by rw [sb_n_i, Int.toNat_of_nonneg (by omega)]
    obtain ⟨⟨b1, b2, b3, b4⟩, _, hb3, _⟩ := h.2.2 (sb_lo LO LD o d k).toNat (by omega)
    refine sb_Wpos (by first | omega | (simp (disch := omega) only [sb_lit, sb_n_add, sb_n_mul, sb_n_ix, sb_n_lt, sb_n_le, sb_n_eq, sb_ib_n] <;> omega)) ?_
    rw [e]
    refine sb_Wpos (by first | omega | (simp (disch := omega) only [sb_lit, sb_n_add, sb_n_mul, sb_n_ix, sb_n_lt, sb_n_le, sb_n_eq, sb_ib_n] <;> omega)) ?_
    simp (disch := omega) only [sb_lit, sb_n_add, sb_n_mul, sb_n_ix, sb_n_lt, sb_n_le, sb_n_eq, sb_ib_n, hb3, sb_i_lt]
    rw [← e]
    refine sb_Wif (fun q4 => no (fun z => by rcases z.2.2 with w | w <;> omega)) (fun q4 => yes ⟨q1, by omega, Or.inr (by omega)⟩)
/-- a stored text is read again -/
theorem sb_goes (h : sb_LM K LO LD LE s) {k : Nat} (hk : k < K) : sb_W (F_Mo_goes (sb_n k) s) (fun r => r.1 = sb_n 1 ∧ sb_fr sb_ZL s r.2 ∧ sb_EL s r.2 (LE k)) := by
  have hK := h.1
  obtain ⟨_, _, _, n, hn, h5, h6, h7⟩ := h.2.2 k hk
  unfold F_Mo_goes
  refine sb_Wlet ?_
  refine sb_Wpos (by first | omega | (simp (disch := omega) only [sb_lit, sb_n_add, sb_n_mul, sb_n_ix, sb_n_lt, sb_n_le, sb_n_eq, sb_ib_n] <;> omega)) ?_
  have e198 : (ss_setI s 187 23 ((140 : Int32) * sb_n k)).1 198 k = sb_n n := (sb_set_ne (by omega)).trans h5
  refine sb_Wlet ?_
  rw [sb_n_ix (by omega), e198]
  refine sb_Wlet ?_
  have em : (140 : Int32) * sb_n k = sb_n (140 * k) := sb_n_mul 140 k
  rw [em]
  have f : sb_fr sb_ZL s (ss_setI (ss_setI (ss_setI s 187 23 (sb_n (140 * k))) 187 24 (sb_n n)) 187 25 0) := sb_fr_set (sb_fr_set (sb_fr_set (sb_fr_refl _ _) rfl) rfl) rfl
  have hM : sb_MT (fun i => s.1 197 (140 * k + i)) n 0 (140 * k) (ss_setI (ss_setI (ss_setI s 187 23 (sb_n (140 * k))) 187 24 (sb_n n)) 187 25 0) := by
    refine ⟨⟨hn, by omega, by omega⟩, ?_, ?_, sb_set_eq, fun i hi => ?_⟩
    · rw [sb_set_ne (by omega), sb_set_ne (by omega), sb_set_eq]
    · rw [sb_set_ne (by omega), sb_set_eq]
    · rw [sb_set_ne (by omega), sb_set_ne (by omega), sb_set_ne (by omega)]
  have f202 : (ss_setI (ss_setI (ss_setI s 187 23 (sb_n (140 * k))) 187 24 (sb_n n)) 187 25 0).1 202 = s.1 202 := by funext j; exact f.1 202 j rfl
  have fv : ∀ V sm ex, sb_MV V sm ex s → sb_MV V sm ex (ss_setI (ss_setI (ss_setI s 187 23 (sb_n (140 * k))) 187 24 (sb_n n)) 187 25 0) := by
    intro V sm ex hV
    have f3 : sb_fr [187023, 187024, 187025] s (ss_setI (ss_setI (ss_setI s 187 23 (sb_n (140 * k))) 187 24 (sb_n n)) 187 25 0) := sb_fr_set (sb_fr_set (sb_fr_set (sb_fr_refl _ _) rfl) rfl) rfl
    refine ⟨fun j hj => ?_, ?_, fun j hj => ?_, fun j hj => ?_, ?_, ?_⟩
    · rw [f3.1 201 j rfl]; exact hV.1 j hj
    · rw [f3.1 187 19 rfl]; exact hV.2.1
    · rw [f3.1 200 j rfl]; exact hV.2.2.1 j hj
    · rw [f3.1 199 j rfl]; exact hV.2.2.2.1 j hj
    · rw [f3.1 187 20 rfl]; exact hV.2.2.2.2.1
    · rw [f3.1 187 21 rfl]; exact hV.2.2.2.2.2
  refine sb_Wmono (sb_M_goes 10 ss_F 0 0 _ (by omega) (by omega) (by unfold ss_F; omega) hM) (fun r hr => ?_)
  obtain ⟨r1, r2, r3, r4⟩ := hr
  rw [h6] at r1
  have r3 := r3 h6
  rw [h7] at r3
  refine ⟨r1, sb_fr_trans f (sb_fr_mono r2 (by decide)), fun V sm ex hV => ?_⟩
  have := r3 V sm ex (fv V sm ex hV)
  rw [f202] at this
  exact this
theorem sb_clean : sb_W (F_Mo_clean s) (fun r => sb_fr [199, 200, 201, 187019, 187020, 187021] s r ∧ sb_MV sb_us true false r) := by
  unfold F_Mo_clean
  refine sb_for (fun n k s => F_Mo_clean_b2 n (sb_n k) s) 20 (fun k u => sb_fr [199, 200, 201, 187019, 187020, 187021] s u ∧ ∀ j, j < k → u.1 199 j = sb_i (sb_us (20 + j))) ?_ ?_ ss_F 0 s (by omega) (by unfold ss_F; omega) ⟨sb_fr_refl _ _, fun j hj => absurd hj (by omega)⟩
  · intro n u hI
    simp only [F_Mo_clean_b2]
    refine sb_Wpos (by first | omega | (simp (disch := omega) only [sb_lit, sb_n_add, sb_n_mul, sb_n_ix, sb_n_lt, sb_n_le, sb_n_eq, sb_ib_n] <;> omega)) ?_
    refine sb_for (fun n k s => F_Mo_clean_b26 n (sb_n k) s) 10 (fun k v => sb_fr [199, 200, 201, 187019, 187020, 187021] s v ∧ (∀ j, j < 20 → v.1 199 j = sb_i (sb_us (20 + j))) ∧ ∀ j, j < k → v.1 200 j = sb_i (sb_us (10 + j))) ?_ ?_ ss_F 0 u (by omega) (by unfold ss_F; omega) ⟨hI.1, hI.2, fun j hj => absurd hj (by omega)⟩
    · intro n v hv
      simp only [F_Mo_clean_b26]
      refine sb_Wpos (by first | omega | (simp (disch := omega) only [sb_lit, sb_n_add, sb_n_mul, sb_n_ix, sb_n_lt, sb_n_le, sb_n_eq, sb_ib_n] <;> omega)) ?_
      refine sb_Wpos (by decide) (sb_Wlet (sb_Wpos (by decide) (sb_Wlet (sb_Wpos (by decide) (sb_Wlet (sb_Wpos (by decide) (sb_Wlet (sb_Wpos (by decide) (sb_Wlet (sb_Wlet (sb_Wlet (sb_Wlet (sb_Wsome ?_)))))))))))))
      have i0 : (0 : Int32).toNatClampNeg = 0 := sb_n_ix (k := 0) (by omega)
      have i1 : (1 : Int32).toNatClampNeg = 1 := sb_n_ix (k := 1) (by omega)
      have i2 : (2 : Int32).toNatClampNeg = 2 := sb_n_ix (k := 2) (by omega)
      have i3 : (3 : Int32).toNatClampNeg = 3 := sb_n_ix (k := 3) (by omega)
      have i4 : (4 : Int32).toNatClampNeg = 4 := sb_n_ix (k := 4) (by omega)
      rw [i0, i1, i2, i3, i4]
      refine ⟨sb_fr_set (sb_fr_set (sb_fr_set (sb_fr_set (sb_fr_set (sb_fr_set (sb_fr_set (sb_fr_set hv.1 rfl) rfl) rfl) rfl) rfl) rfl) rfl) rfl, fun j hj => ?_, ?_, fun j hj => ?_, fun j hj => ?_, ?_, ?_⟩
      · have : j = 0 ∨ j = 1 ∨ j = 2 ∨ j = 3 ∨ j = 4 := by omega
        rcases this with rfl | rfl | rfl | rfl | rfl
        · rw [sb_set_ne (by omega), sb_set_ne (by omega), sb_set_ne (by omega), sb_set_ne (by omega), sb_set_ne (by omega), sb_set_ne (by omega), sb_set_ne (by omega), sb_set_eq]; decide
        · rw [sb_set_ne (by omega), sb_set_ne (by omega), sb_set_ne (by omega), sb_set_ne (by omega), sb_set_ne (by omega), sb_set_ne (by omega), sb_set_eq]; decide
        · rw [sb_set_ne (by omega), sb_set_ne (by omega), sb_set_ne (by omega), sb_set_ne (by omega), sb_set_ne (by omega), sb_set_eq]; decide
        · rw [sb_set_ne (by omega), sb_set_ne (by omega), sb_set_ne (by omega), sb_set_ne (by omega), sb_set_eq]; decide
        · rw [sb_set_ne (by omega), sb_set_ne (by omega), sb_set_ne (by omega), sb_set_eq]; decide
      · rw [sb_set_ne (by omega), sb_set_ne (by omega), sb_set_eq]; decide
      · rw [sb_set_ne (by omega), sb_set_ne (by omega), sb_set_ne (by omega), sb_set_ne (by omega), sb_set_ne (by omega), sb_set_ne (by omega), sb_set_ne (by omega), sb_set_ne (by omega)]; exact hv.2.2 j hj
      · rw [sb_set_ne (by omega), sb_set_ne (by omega), sb_set_ne (by omega), sb_set_ne (by omega), sb_set_ne (by omega), sb_set_ne (by omega), sb_set_ne (by omega), sb_set_ne (by omega)]; exact hv.2.1 j hj
      · rw [sb_set_ne (by omega), sb_set_eq]; rfl
      · rw [sb_set_eq]; rfl
    · intro n k v hk hv ih
      simp only [F_Mo_clean_b26]
      refine sb_Wneg (by first | omega | (simp (disch := omega) only [sb_lit, sb_n_add, sb_n_mul, sb_n_ix, sb_n_lt, sb_n_le, sb_n_eq, sb_ib_n] <;> omega)) ?_
      refine sb_Wpos (by first | omega | (simp (disch := omega) only [sb_lit, sb_n_add, sb_n_mul, sb_n_ix, sb_n_lt, sb_n_le, sb_n_eq, sb_ib_n] <;> omega)) ?_
      refine sb_Wlet (sb_Wlet ?_)
      simp (disch := omega) only [sb_lit, sb_n_add, sb_n_mul, sb_n_ix, sb_n_lt, sb_n_le, sb_n_eq, sb_ib_n]
      refine ih _ ⟨sb_fr_set hv.1 rfl, fun j hj => (sb_set_ne (by omega)).trans (hv.2.1 j hj), fun j hj => ?_⟩
      by_cases q : j = k
      · subst q; rw [sb_set_eq]; unfold sb_us; rw [if_neg (by omega), if_pos (by omega)]; exact sb_n_i 9999
      · rw [sb_set_ne (by omega)]; exact hv.2.2 j (by omega)
  · intro n k v hk hv ih
    simp only [F_Mo_clean_b2]
    refine sb_Wneg (by first | omega | (simp (disch := omega) only [sb_lit, sb_n_add, sb_n_mul, sb_n_ix, sb_n_lt, sb_n_le, sb_n_eq, sb_ib_n] <;> omega)) ?_
    refine sb_Wpos (by first | omega | (simp (disch := omega) only [sb_lit, sb_n_add, sb_n_mul, sb_n_ix, sb_n_lt, sb_n_le, sb_n_eq, sb_ib_n] <;> omega)) ?_
    refine sb_Wlet (sb_Wlet ?_)
    simp (disch := omega) only [sb_lit, sb_n_add, sb_n_mul, sb_n_ix, sb_n_lt, sb_n_le, sb_n_eq, sb_ib_n, sb_n_div, sb_n_sub]
    refine ih _ ⟨sb_fr_set hv.1 rfl, fun j hj => ?_⟩
    by_cases q : j = k
    · subst q; rw [sb_set_eq]; unfold sb_us; rw [if_pos (by omega), sb_n_i]; congr 1; omega
    · rw [sb_set_ne (by omega)]; exact hv.2 j (by omega)
theorem sb_MV_congr {V U : Nat → Int} {sm ex : Bool} (h : sb_MV V sm ex s) (e : ∀ w, V w = U w) : sb_MV U sm ex s := by
  have : V = U := funext e
  rw [← this]; exact h
/-- what holds for an owner on a day -/
theorem sb_look (h : sb_LM K LO LD LE s) {o d : Int} (ho : -1 ≤ o) (ho5 : o ≤ 5) (hd : 0 ≤ d) (hd9 : d ≤ 9999) : sb_W (F_Mo_look (sb_i o) (sb_i d) s) (fun r => sb_fr sb_ZL s r ∧ ∃ sm ex, sb_MV (sb_v K LO LD LE o d) sm ex r ∧ (o = -1 → sm = sb_hd (s.1 202) (sb_L1 LE 1 (sb_lo LO LD (-1) d K)) true ∧ ex = sb_hd (s.1 202) (sb_L1 LE 2 (sb_lo LO LD (-1) d K)) false)) := by
  have gc := sb_lo_rg (LO := LO) (LD := LD) (o := -1) (d := d) K
  have go := sb_lo_rg (LO := LO) (LD := LD) (o := o) (d := d) K
  have hK := h.1
  unfold F_Mo_look
  refine sb_Wbind2 (sb_clean (s := s)) (fun u hu => ?_)
  obtain ⟨u1, u2⟩ := hu
  have fu : sb_fr sb_ZL s u := sb_fr_mono u1 (by decide)
  have hu := sb_LM_fr h fu (by decide)
  have e202 : ∀ {w : sv_S}, sb_fr sb_ZL s w → w.1 202 = s.1 202 := fun f => by funext j; exact f.1 202 j rfl
  rw [sb_m1]
  refine sb_Wbind2 (sb_lawOn hu (o := -1) (by omega) (by omega) hd hd9) (fun r hr => ?_)
  subst hr
  -- values behind the court's law
  have b28 : ∀ (w : sv_S) (sm ex : Bool) (V : Nat → Int), sb_fr sb_ZL s w → sb_MV V sm ex w → (∀ k, V k = if 0 ≤ sb_v1 LE (sb_lo LO LD (-1) d K) k then sb_v1 LE (sb_lo LO LD (-1) d K) k else sb_us k) → sm = sb_hd (s.1 202) (sb_L1 LE 1 (sb_lo LO LD (-1) d K)) true → ex = sb_hd (s.1 202) (sb_L1 LE 2 (sb_lo LO LD (-1) d K)) false →
      sb_W (F_Mo_look_b28 (sb_i o) (sb_i d) (1 : Int32) w) (fun r => sb_fr sb_ZL s r ∧ ∃ sm ex, sb_MV (sb_v K LO LD LE o d) sm ex r ∧ (o = -1 → sm = sb_hd (s.1 202) (sb_L1 LE 1 (sb_lo LO LD (-1) d K)) true ∧ ex = sb_hd (s.1 202) (sb_L1 LE 2 (sb_lo LO LD (-1) d K)) false)) := by
    intro w sm ex V fw hV eV esm eex
    have hw := sb_LM_fr h fw (by decide)
    unfold F_Mo_look_b28
    by_cases q : o = -1
    · refine sb_Wneg (by rw [q]; decide) ?_
      unfold F_Mo_look_b44
      refine sb_Wneg (by decide) (sb_Wpos (by decide) (sb_Wsome ⟨fw, sm, ex, sb_MV_congr hV (fun k => ?_), fun _ => ⟨esm, eex⟩⟩))
      rw [eV k]; unfold sb_v; subst q; split
      · rfl
      · rfl
    · refine sb_Wpos (sb_ge0 (by omega) (by omega)) ?_
      refine sb_Wbind2 (sb_lawOn hw (o := o) (by omega) (by omega) hd hd9) (fun r hr => ?_)
      subst hr
      unfold F_Mo_look_b44
      refine sb_Wneg (by decide) ?_
      by_cases q2 : sb_lo LO LD o d K < 0
      · refine sb_Wpos (by rw [show (0 : Int32) = sb_i 0 from sb_n_i 0, sb_i_lt (by omega) (by omega) (by omega) (by omega)]; exact q2) (sb_Wsome ⟨fw, sm, ex, sb_MV_congr hV (fun k => ?_), fun z => absurd z q⟩)
        rw [eV k]; unfold sb_v
        have : sb_v1 LE (sb_lo LO LD o d K) k = -1 := by unfold sb_v1; rw [if_pos q2]
        rw [this, if_neg (show ¬ (0 : Int) ≤ -1 by omega)]
      · refine sb_Wneg (by rw [show (0 : Int32) = sb_i 0 from sb_n_i 0, sb_i_lt (by omega) (by omega) (by omega) (by omega)]; exact q2) ?_
        have e : sb_i (sb_lo LO LD o d K) = sb_n (sb_lo LO LD o d K).toNat := by rw [sb_n_i, Int.toNat_of_nonneg (by omega)]
        rw [e]
        refine sb_Wbind2 (sb_goes hw (by omega)) (fun r hr => sb_Wsome ?_)
        obtain ⟨r1, r2, r3⟩ := hr
        refine ⟨sb_fr_trans fw r2, _, _, sb_MV_congr (r3 V sm ex hV) (fun k => ?_), fun z => absurd z q⟩
        have A := sb_apl_or _ (sb_LM_ok h (k := (sb_lo LO LD o d K).toNat) (by omega)) (fun _ => -1) V k (Or.inl (by show (-1 : Int) < 0; omega))
        have e1 : sb_v1 LE (sb_lo LO LD o d K) k = sb_apl (LE (sb_lo LO LD o d K).toNat) (fun _ => -1) k := by unfold sb_v1; rw [if_neg q2]
        unfold sb_v
        rw [e1, ← eV k]
        rcases A with ⟨A1, A2⟩ | ⟨A1, A2⟩
        · rw [if_pos A1]; exact A2
        · rw [if_neg (by omega)]; exact A2
  by_cases q : sb_lo LO LD (-1) d K < 0
  · refine sb_Wpos (by rw [show (0 : Int32) = sb_i 0 from sb_n_i 0, sb_i_lt (by omega) (by omega) (by omega) (by omega)]; exact q) ?_
    unfold F_Mo_look_b23
    refine b28 u true false sb_us fu u2 (fun k => ?_) ?_ ?_
    · have : sb_v1 LE (sb_lo LO LD (-1) d K) k = -1 := by unfold sb_v1; rw [if_pos q]
      rw [this, if_neg (show ¬ (0 : Int) ≤ -1 by omega)]
    · unfold sb_L1 sb_hd; rw [if_pos q, if_pos rfl]
    · unfold sb_L1 sb_hd; rw [if_pos q, if_pos rfl]
  · refine sb_Wneg (by rw [show (0 : Int32) = sb_i 0 from sb_n_i 0, sb_i_lt (by omega) (by omega) (by omega) (by omega)]; exact q) ?_
    have e : sb_i (sb_lo LO LD (-1) d K) = sb_n (sb_lo LO LD (-1) d K).toNat := by rw [sb_n_i, Int.toNat_of_nonneg (by omega)]
    rw [e]
    have ok := sb_LM_ok h (k := (sb_lo LO LD (-1) d K).toNat) (by omega)
    refine sb_Wbind2 (sb_goes hu (by omega)) (fun r hr => ?_)
    obtain ⟨r1, r2, r3⟩ := hr
    refine sb_Wneg (by rw [r1]; decide) ?_
    unfold F_Mo_look_b23
    have R := r3 sb_us true false u2
    rw [e202 fu] at R
    refine b28 r.2 _ _ _ (sb_fr_trans fu r2) R (fun k => ?_) ?_ ?_
    · have A := sb_apl_or _ ok (fun _ => -1) sb_us k (Or.inl (by show (-1 : Int) < 0; omega))
      have e1 : sb_v1 LE (sb_lo LO LD (-1) d K) k = sb_apl (LE (sb_lo LO LD (-1) d K).toNat) (fun _ => -1) k := by unfold sb_v1; rw [if_neg q]
      rw [e1]
      rcases A with ⟨A1, A2⟩ | ⟨A1, A2⟩
      · rw [if_pos A1]; exact A2
      · rw [if_neg (by omega)]; exact A2
    · unfold sb_L1; rw [if_neg q]; exact sb_tgl_hd _ ok (by omega) true true [] (Or.inl ⟨rfl, rfl⟩)
    · unfold sb_L1; rw [if_neg q]; exact sb_tgl_hd _ ok (by omega) false false [] (Or.inl ⟨rfl, rfl⟩)
end LWS
