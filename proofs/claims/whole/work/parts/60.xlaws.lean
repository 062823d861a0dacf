/-! laws in force: the class -/
def zb_ce (x : Int) : Nat := if x < 0 then 85 else 243 + 4 * x.toNat
/-- the class's laws -/
def zb_LX0 (K : Nat) (LO LD : Nat → Int) (LE : Nat → List zb_EF) (s : sv_S) : Prop :=
  K ≤ 16 ∧ s.1 81 4 = zb_n K ∧ s.2.2.2.2.1 = 4 * K ∧ (s.1 85 0 = zb_i (-1) ∧ s.1 85 1 = zb_i (-1) ∧ s.1 85 2 = zb_i (-1) ∧ ∀ i, i < 40 → s.1 84 i = zb_i (-1)) ∧
  ∀ k, k < K → (-1 ≤ LO k ∧ LO k ≤ 5 ∧ 0 ≤ LD k ∧ LD k ≤ 9999) ∧ (∀ e, e ∈ LE k → zb_eok e) ∧ s.2.2.1 82 k = 243 + 4 * k ∧ s.1 (243 + 4 * k) 0 = zb_n k ∧ s.1 (243 + 4 * k) 1 = zb_i (LO k) ∧ s.1 (243 + 4 * k) 2 = zb_i (LD k) ∧
    s.2.2.2.1 (244 + 4 * k) = 40 ∧ (∀ i, i < 40 → s.1 (244 + 4 * k) i = zb_i (zb_apl (LE k) (fun _ => -1) i)) ∧
    s.2.2.2.1 (245 + 4 * k) = (zb_lst 1 (LE k) []).length ∧ (∀ i, i < (zb_lst 1 (LE k) []).length → s.1 (245 + 4 * k) i = (zb_lst 1 (LE k) []).getD i 0) ∧
    s.2.2.2.1 (246 + 4 * k) = (zb_lst 2 (LE k) []).length ∧ (∀ i, i < (zb_lst 2 (LE k) []).length → s.1 (246 + 4 * k) i = (zb_lst 2 (LE k) []).getD i 0)
/-- those in force on the day asked for last -/
def zb_LXc (K : Nat) (LO LD : Nat → Int) (s : sv_S) : Prop := ∃ sd : Int, s.1 81 3 = zb_i sd ∧ -1 ≤ sd ∧ sd ≤ 9999 ∧ (0 ≤ sd → ∀ o : Int, -1 ≤ o → o ≤ 5 → s.2.2.1 83 (o + 1).toNat = zb_ce (zb_lo LO LD o sd K))
def zb_LX (K : Nat) (LO LD : Nat → Int) (LE : Nat → List zb_EF) (s : sv_S) : Prop := zb_LX0 K LO LD LE s ∧ zb_LXc K LO LD s
/-- what the class may change besides: the rows of those in force -/
def zb_fx (L : List Nat) (s t : sv_S) : Prop := (∀ c k, L.contains (zb_rg c k) = false → t.1 c k = s.1 c k) ∧ t.2.1 = s.2.1 ∧ (∀ c k, c ≠ 83 → t.2.2.1 c k = s.2.2.1 c k) ∧ t.2.2.2 = s.2.2.2
theorem zb_fx_refl (L : List Nat) (s : sv_S) : zb_fx L s s := ⟨fun _ _ _ => rfl, rfl, fun _ _ _ => rfl, rfl⟩
theorem zb_fx_trans {L : List Nat} {s t u : sv_S} (h1 : zb_fx L s t) (h2 : zb_fx L t u) : zb_fx L s u := ⟨fun c k h => (h2.1 c k h).trans (h1.1 c k h), h2.2.1.trans h1.2.1, fun c k h => (h2.2.2.1 c k h).trans (h1.2.2.1 c k h), h2.2.2.2.trans h1.2.2.2⟩
theorem zb_fx_mono {L L' : List Nat} {s t : sv_S} (h : zb_fx L s t) (hs : ∀ x, x ∈ L → L'.contains x = true) : zb_fx L' s t := by
  refine ⟨fun c k q => h.1 c k ?_, h.2⟩
  cases e : L.contains (zb_rg c k) with
  | false => rfl
  | true => exact absurd (hs _ (List.contains_iff_mem.mp e)) (by rw [q]; decide)
theorem zb_fr_fx {L : List Nat} {s t : sv_S} (h : zb_fr L s t) : zb_fx L s t := ⟨h.1, by rw [h.2], fun c k _ => by rw [h.2], by rw [h.2]⟩
theorem zb_fx_set {L : List Nat} {s t : sv_S} {c k : Nat} {v : Int32} (h : zb_fx L s t) (hc : L.contains (zb_rg c k) = true) : zb_fx L s (ss_setI t c k v) := by
  refine ⟨fun a j q => ?_, h.2⟩
  have : ¬ (a = c ∧ j = k) := fun e => by rw [e.1, e.2, hc] at q; cases q
  exact (zb_up_ne this).trans (h.1 a j q)
theorem zb_fx_setG {L : List Nat} {s t : sv_S} {k v : Nat} (h : zb_fx L s t) : zb_fx L s (ss_setG t 83 k v) := ⟨h.1, h.2.1, fun c j hc => (zb_up_ne (fun e => hc e.1)).trans (h.2.2.1 c j hc), h.2.2.2⟩
section XLW
variable {K : Nat} {LO LD : Nat → Int} {LE : Nat → List zb_EF} {s : sv_S}
theorem zb_rg243 {c k : Nat} (h : 243 ≤ c) : zb_rg c k = 243 := by
  unfold zb_rg
  have : zb_ob.contains c = false := by
    cases e : zb_ob.contains c with
    | false => rfl
    | true =>
      have := List.contains_iff_mem.mp e
      unfold zb_ob at this
      simp at this; omega
  rw [this, if_neg (by decide), if_neg (by omega), if_neg (by omega), if_neg (by omega), if_pos h]
theorem zb_LX0_fx {L : List Nat} {u : sv_S} (h : zb_LX0 K LO LD LE s) (hf : zb_fx L s u) (hL : [81004, 85000, 85001, 85002, 84, 243].all (fun x => !L.contains x) = true) : zb_LX0 K LO LD LE u := by
  have k : ∀ x, x ∈ [81004, 85000, 85001, 85002, 84, 243] → L.contains x = false := fun x hx => by have := List.all_eq_true.mp hL x hx; simpa using this
  have k243 : ∀ c j, 243 ≤ c → u.1 c j = s.1 c j := fun c j hc => hf.1 c j (by rw [zb_rg243 hc]; exact k 243 (by decide))
  obtain ⟨h1, h2, h3, ⟨h4, h5, h6, h7⟩, h8⟩ := h
  refine ⟨h1, (hf.1 81 4 (k 81004 (by decide))).trans h2, by rw [hf.2.2.2]; exact h3, ⟨(hf.1 85 0 (k 85000 (by decide))).trans h4, (hf.1 85 1 (k 85001 (by decide))).trans h5, (hf.1 85 2 (k 85002 (by decide))).trans h6, fun i hi => (hf.1 84 i (k 84 (by decide))).trans (h7 i hi)⟩, fun j hj => ?_⟩
  obtain ⟨a1, a0, a2, a3, a4, a5, a6, a7, a8, a9, a10, a11⟩ := h8 j hj
  refine ⟨a1, a0, (hf.2.2.1 82 j (by omega)).trans a2, (k243 _ _ (by omega)).trans a3, (k243 _ _ (by omega)).trans a4, (k243 _ _ (by omega)).trans a5, by rw [hf.2.2.2]; exact a6, fun i hi => (k243 _ _ (by omega)).trans (a7 i hi), by rw [hf.2.2.2]; exact a8, fun i hi => (k243 _ _ (by omega)).trans (a9 i hi), by rw [hf.2.2.2]; exact a10, fun i hi => (k243 _ _ (by omega)).trans (a11 i hi)⟩
theorem zb_LXc_fr {L : List Nat} {u : sv_S} (h : zb_LXc K LO LD s) (hf : zb_fr L s u) (hL : L.contains 81003 = false) : zb_LXc K LO LD u := by
  obtain ⟨sd, h1, h2, h3, h4⟩ := h
  exact ⟨sd, (hf.1 81 3 hL).trans h1, h2, h3, fun q o a b => by rw [hf.2]; exact h4 q o a b⟩
theorem zb_LX_fr {L : List Nat} {u : sv_S} (h : zb_LX K LO LD LE s) (hf : zb_fr L s u) (hL : [81003, 81004, 85000, 85001, 85002, 84, 243].all (fun x => !L.contains x) = true) : zb_LX K LO LD LE u := by
  have k : ∀ x, x ∈ [81003, 81004, 85000, 85001, 85002, 84, 243] → L.contains x = false := fun x hx => by have := List.all_eq_true.mp hL x hx; simpa using this
  refine ⟨zb_LX0_fx h.1 (zb_fr_fx hf) ?_, zb_LXc_fr h.2 hf (k 81003 (by decide))⟩
  rw [List.all_eq_true]
  intro x hx
  rw [k x (by simp at hx ⊢; omega)]; rfl
theorem zb_ce_K {x : Int} : ss_K (zb_ce x) = 2 := by
  unfold zb_ce
  by_cases q : x < 0
  · rw [if_pos q]; rfl
  · rw [if_neg q]; unfold ss_K; rw [if_neg (by omega), if_pos (by omega)]
theorem zb_ce_ok {x : Int} (h : s.2.2.2.2.1 = 4 * K) (hx : x < K) : ss_ok2 s (zb_ce x) 2 = true := by
  unfold ss_ok2
  rw [decide_eq_true_eq]
  refine ⟨zb_ce_K, ?_⟩
  unfold zb_ce
  by_cases q : x < 0
  · rw [if_pos q]; omega
  · rw [if_neg q, h]; omega
/-- the day of a law, or of none -/
theorem zb_ce_day (h : zb_LX0 K LO LD LE s) {x : Int} (hx : x < K) : s.1 (zb_ce x) 2 = zb_i (if x < 0 then -1 else LD x.toNat) := by
  unfold zb_ce
  by_cases q : x < 0
  · rw [if_pos q, if_pos q]; exact h.2.2.2.1.2.2.1
  · rw [if_neg q, if_neg q]; exact (h.2.2.2.2 x.toNat (by omega)).2.2.2.2.2.1
theorem zb_inForce (h : zb_LX K LO LD LE s) {o d : Int} (ho : -1 ≤ o) (ho5 : o ≤ 5) (hd : 0 ≤ d) (hd9 : d ≤ 9999) : zb_W (F_Ls_inForce (zb_i o) (zb_i d) s) (fun r => r.1 = zb_ce (zb_lo LO LD o d K) ∧ zb_LX K LO LD LE r.2 ∧ zb_fx [81003] s r.2) := by
  obtain ⟨h0, sd, c1, c2, c3, c4⟩ := h
  have hK := h0.1
  have eo : zb_i o + (1 : Int32) = zb_n (o + 1).toNat := by rw [show (1 : Int32) = zb_i 1 from zb_n_i 1, zb_i_add, zb_n_i, Int.toNat_of_nonneg (by omega)]
  have g := zb_lo_rg (LO := LO) (LD := LD) (o := o) (d := d) K
  unfold F_Ls_inForce
  rw [c1, eo]
  by_cases q : d = sd
  · subst q
    refine zb_Wpos rfl ?_
    refine zb_Wpos (by first | omega | (simp (disch := omega) only [zb_lit, zb_n_add, zb_n_mul, zb_n_ix, zb_n_lt, zb_n_le, zb_n_eq, zb_ib_n] <;> omega)) ?_
    refine zb_Wlet ?_
    rw [zb_n_ix (by omega), c4 hd o ho ho5]
    exact zb_Wpos (zb_ce_ok h0.2.2.1 g.2) (zb_Wsome ⟨rfl, ⟨h0, d, c1, c2, c3, c4⟩, zb_fx_refl _ _⟩)
  · refine zb_Wneg (by rw [zb_i_eq (by omega) (by omega) (by omega) (by omega)]; exact q) ?_
    -- first all are none
    refine zb_for (fun n k s => F_Ls_inForce_b19 n (zb_i o) (zb_i d) (zb_n k) s) 7 (fun k u => zb_fx [81003] s u ∧ ∀ j, j < k → u.2.2.1 83 j = 85) ?_ ?_ ss_F 0 s (by omega) (by unfold ss_F; omega) ⟨zb_fx_refl _ _, fun j hj => absurd hj (by omega)⟩
    · intro n u hI
      simp only [F_Ls_inForce_b19]
      refine zb_Wpos (by first | omega | (simp (disch := omega) only [zb_lit, zb_n_add, zb_n_mul, zb_n_ix, zb_n_lt, zb_n_le, zb_n_eq, zb_ib_n] <;> omega)) ?_
      refine zb_for (fun n k s => F_Ls_inForce_b43 n (zb_i o) (zb_i d) (zb_n k) s) K (fun k v => zb_fx [81003] s v ∧ ∀ p : Int, -1 ≤ p → p ≤ 5 → v.2.2.1 83 (p + 1).toNat = zb_ce (zb_lo LO LD p d k)) ?_ ?_ ss_F 0 u (by omega) (by unfold ss_F; omega) ⟨hI.1, fun p p1 p2 => by rw [hI.2 _ (by omega)]; rfl⟩
      · intro n v hv
        have hv0 := zb_LX0_fx h0 hv.1 (by decide)
        simp only [F_Ls_inForce_b43]
        rw [hv0.2.1]
        refine zb_Wpos (Int32.le_refl _) (zb_Wlet ?_)
        rw [eo]
        refine zb_Wpos (by first | omega | (simp (disch := omega) only [zb_lit, zb_n_add, zb_n_mul, zb_n_ix, zb_n_lt, zb_n_le, zb_n_eq, zb_ib_n] <;> omega)) ?_
        refine zb_Wlet ?_
        have e2 : (ss_setI v 81 3 (zb_i d)).2.2.1 83 (o + 1).toNat = zb_ce (zb_lo LO LD o d K) := hv.2 o ho ho5
        rw [zb_n_ix (by omega), e2]
        have fx1 : zb_fx [81003] s (ss_setI v 81 3 (zb_i d)) := zb_fx_set hv.1 rfl
        have h1 := zb_LX0_fx h0 fx1 (by decide)
        refine zb_Wpos (zb_ce_ok h1.2.2.1 g.2) (zb_Wsome ⟨rfl, ⟨h1, d, zb_set_eq, by omega, by omega, fun _ p p1 p2 => hv.2 p p1 p2⟩, fx1⟩)
      · intro n k v hk hv ih
        have hv0 := zb_LX0_fx h0 hv.1 (by decide)
        obtain ⟨⟨a1, a2, a3, a4⟩, _, b2, b3, b4, b5, _⟩ := hv0.2.2.2.2 k hk
        simp only [F_Ls_inForce_b43]
        rw [hv0.2.1]
        refine zb_Wneg (by first | omega | (simp (disch := omega) only [zb_lit, zb_n_add, zb_n_mul, zb_n_ix, zb_n_lt, zb_n_le, zb_n_eq, zb_ib_n] <;> omega)) ?_
        refine zb_Wpos (by first | omega | (simp (disch := omega) only [zb_lit, zb_n_add, zb_n_mul, zb_n_ix, zb_n_lt, zb_n_le, zb_n_eq, zb_ib_n] <;> omega)) ?_
        refine zb_Wlet ?_
        rw [zb_n_ix (by omega), b2]
        have ck : zb_ce k = 243 + 4 * k := by unfold zb_ce; rw [if_neg (by omega)]; simp
        refine zb_Wpos (by rw [← ck]; exact zb_ce_ok hv0.2.2.1 (by omega)) ?_
        rw [b5]
        have skip : (∀ p, -1 ≤ p → p ≤ 5 → ¬ (LO k = p ∧ LD k ≤ d ∧ (zb_lo LO LD p d k < 0 ∨ LD (zb_lo LO LD p d k).toNat ≤ LD k))) → zb_W (F_Ls_inForce_b105 (F_Ls_inForce_b43 n) (zb_i o) (zb_i d) (zb_n k) v) (fun r => r.1 = zb_ce (zb_lo LO LD o d K) ∧ zb_LX K LO LD LE r.2 ∧ zb_fx [81003] s r.2) := by
          intro z
          unfold F_Ls_inForce_b105
          refine zb_Wlet ?_
          simp (disch := omega) only [zb_lit, zb_n_add, zb_n_mul, zb_n_ix, zb_n_lt, zb_n_le, zb_n_eq, zb_ib_n]
          refine ih v ⟨hv.1, fun p p1 p2 => ?_⟩
          simp only [zb_lo]; rw [if_neg (z p p1 p2)]; exact hv.2 p p1 p2
        by_cases q1 : d < LD k
        · refine zb_Wpos (by rw [zb_i_lt (by omega) (by omega) (by omega) (by omega)]; exact q1) (skip (fun p _ _ z => by omega))
        · refine zb_Wneg (by rw [zb_i_lt (by omega) (by omega) (by omega) (by omega)]; exact q1) ?_
          rw [b4]
          have eL : zb_i (LO k) + (1 : Int32) = zb_n (LO k + 1).toNat := by rw [show (1 : Int32) = zb_i 1 from zb_n_i 1, zb_i_add, zb_n_i, Int.toNat_of_nonneg (by omega)]
          rw [eL]
          refine zb_Wpos (by first | omega | (simp (disch := omega) only [zb_lit, zb_n_add, zb_n_mul, zb_n_ix, zb_n_lt, zb_n_le, zb_n_eq, zb_ib_n] <;> omega)) ?_
          refine zb_Wlet ?_
          have gk := zb_lo_rg (LO := LO) (LD := LD) (o := LO k) (d := d) k
          rw [zb_n_ix (by omega), hv.2 (LO k) a1 a2]
          refine zb_Wpos (zb_ce_ok hv0.2.2.1 (by omega)) ?_
          rw [zb_ce_day hv0 (by omega)]
          have LDr : ∀ x : Int, -1 ≤ x → x < k → -1 ≤ (if x < 0 then -1 else LD x.toNat) ∧ (if x < 0 then -1 else LD x.toNat) ≤ 9999 := by
            intro x x1 x2
            by_cases w : x < 0
            · rw [if_pos w]; omega
            · rw [if_neg w]; have := (hv0.2.2.2.2 x.toNat (by omega)).1; omega
          have LDk := LDr _ gk.1 gk.2
          by_cases q2 : LD k < (if zb_lo LO LD (LO k) d k < 0 then -1 else LD (zb_lo LO LD (LO k) d k).toNat)
          · refine zb_Wpos (by rw [zb_i_lt (by omega) (by omega) (by omega) (by omega)]; exact q2) (skip (fun p _ _ z => ?_))
            obtain ⟨z1, z2, z3⟩ := z
            subst z1
            by_cases w : zb_lo LO LD (LO k) d k < 0
            · rw [if_pos w] at q2; omega
            · rw [if_neg w] at q2; rcases z3 with z3 | z3 <;> omega
          · refine zb_Wneg (by rw [zb_i_lt (by omega) (by omega) (by omega) (by omega)]; exact q2) ?_
            refine zb_Wpos (by first | omega | (simp (disch := omega) only [zb_lit, zb_n_add, zb_n_mul, zb_n_ix, zb_n_lt, zb_n_le, zb_n_eq, zb_ib_n] <;> omega)) ?_
            refine zb_Wlet ?_
            unfold F_Ls_inForce_b105
            refine zb_Wlet ?_
            simp (disch := omega) only [zb_lit, zb_n_add, zb_n_mul, zb_n_ix, zb_n_lt, zb_n_le, zb_n_eq, zb_ib_n]
            refine ih _ ⟨zb_fx_setG hv.1, fun p p1 p2 => ?_⟩
            simp only [zb_lo]
            by_cases w : p = LO k
            · subst w
              rw [if_pos]
              · show sv_up v.2.2.1 83 _ _ 83 _ = _
                rw [zb_up_eq, ← ck]
              · refine ⟨rfl, by omega, ?_⟩
                by_cases w : zb_lo LO LD (LO k) d k < 0
                · exact Or.inl w
                · rw [if_neg w] at q2; exact Or.inr (by omega)
            · rw [if_neg (fun z => w z.1.symm)]
              show sv_up v.2.2.1 83 _ _ 83 _ = _
              rw [zb_up_ne (by omega)]; exact hv.2 p p1 p2
    · intro n k u hk hI ih
      simp only [F_Ls_inForce_b19]
      refine zb_Wneg (by first | omega | (simp (disch := omega) only [zb_lit, zb_n_add, zb_n_mul, zb_n_ix, zb_n_lt, zb_n_le, zb_n_eq, zb_ib_n] <;> omega)) ?_
      refine zb_Wpos (by first | omega | (simp (disch := omega) only [zb_lit, zb_n_add, zb_n_mul, zb_n_ix, zb_n_lt, zb_n_le, zb_n_eq, zb_ib_n] <;> omega)) ?_
      refine zb_Wlet (zb_Wlet ?_)
      simp (disch := omega) only [zb_lit, zb_n_add, zb_n_mul, zb_n_ix, zb_n_lt, zb_n_le, zb_n_eq, zb_ib_n]
      refine ih _ ⟨zb_fx_setG hI.1, fun j hj => ?_⟩
      show sv_up u.2.2.1 83 _ _ 83 _ = _
      by_cases w : j = k
      · subst w; rw [zb_up_eq]
      · rw [zb_up_ne (by omega)]; exact hI.2 j (by omega)
/-- the row of values of a law, or of none -/
theorem zb_ce_val (h : zb_LX0 K LO LD LE s) {x : Int} (hx : x < K) : ∃ w, ss_LR (zb_ce x) 3 = some w ∧ ss_ok2 s w 20 = true ∧ ss_N s.2.2.2.1 w = 40 ∧ ∀ i, i < 40 → s.1 w i = zb_i (zb_v1 LE x i) := by
  unfold zb_ce zb_v1
  by_cases q : x < 0
  · refine ⟨84, by rw [if_pos q]; rfl, ?_, rfl, fun i hi => by rw [if_pos q]; exact h.2.2.2.1.2.2.2 i hi⟩
    unfold ss_ok2; rw [decide_eq_true_eq]; exact ⟨rfl, by omega, by omega⟩
  · obtain ⟨_, _, b2, b3, b4, b5, b6, b7, _⟩ := h.2.2.2.2 x.toNat (by omega)
    refine ⟨244 + 4 * x.toNat, ?_, ?_, ?_, fun i hi => by rw [if_neg q]; exact b7 i hi⟩
    · rw [if_neg q]; unfold ss_LR; rw [if_neg (by omega), if_neg (by omega), if_pos (by omega)]; congr 1; omega
    · unfold ss_ok2 ss_K; rw [decide_eq_true_eq, if_neg (by omega), if_neg (by omega), h.2.2.1]; omega
    · unfold ss_N; rw [if_neg (by omega), if_neg (by omega)]; exact b6
theorem zb_v1_lo (h : zb_LX0 K LO LD LE s) {x : Int} (hx : x < K) (w : Nat) : -1 ≤ zb_v1 LE x w ∧ zb_v1 LE x w ≤ 9999 := by
  unfold zb_v1
  by_cases q : x < 0
  · rw [if_pos q]; omega
  · rw [if_neg q]
    have := zb_apl_rg _ (h.2.2.2.2 x.toNat (by omega)).2.1 (fun _ => -1) (fun w => by omega) w
    omega
theorem zb_usual {w : Nat} (hw : w < 40) : F_Ls_usual (zb_n w) s = some (zb_i (zb_us w)) := by
  unfold F_Ls_usual zb_us
  simp (disch := omega) only [zb_lit, zb_n_add, zb_n_mul, zb_n_ix, zb_n_lt, zb_n_le, zb_n_eq, zb_ib_n, zb_n_sub, zb_n_div]
  by_cases q1 : 20 ≤ w
  · rw [if_neg (by omega), if_pos q1]
    rw [zb_n_i]; congr 2; omega
  · rw [if_pos (by omega), if_neg q1]
    by_cases q2 : 10 ≤ w
    · rw [if_neg (by omega), if_pos q2, zb_n_i]; rfl
    · rw [if_pos (by omega), if_neg q2]
      by_cases q3 : w = 2
      · rw [if_pos q3, if_pos q3, zb_n_i]; rfl
      · rw [if_neg q3, if_neg q3]
        by_cases q4 : w = 4
        · rw [if_pos q4, if_pos q4, zb_n_i]; rfl
        · rw [if_neg q4, if_neg q4, zb_n_i]; rfl
theorem zb_value (h : zb_LX K LO LD LE s) {o d : Int} {w : Nat} (ho : -1 ≤ o) (ho5 : o ≤ 5) (hd : 0 ≤ d) (hd9 : d ≤ 9999) (hw : w < 40) : zb_W (F_Ls_value (zb_i o) (zb_i d) (zb_n w) s) (fun r => r.1 = zb_i (zb_v K LO LD LE o d w) ∧ zb_LX K LO LD LE r.2 ∧ zb_fx [81003] s r.2) := by
  have go := zb_lo_rg (LO := LO) (LD := LD) (o := o) (d := d) K
  have gc := zb_lo_rg (LO := LO) (LD := LD) (o := -1) (d := d) K
  unfold F_Ls_value
  rw [zb_m1]
  refine zb_Wbind2 (zb_inForce h ho ho5 hd hd9) (fun r hr => ?_)
  obtain ⟨r1, r2, r3⟩ := hr
  rw [r1]
  refine zb_Wpos (zb_ce_ok r2.1.2.2.1 go.2) ?_
  obtain ⟨c, c1, c2, c3, c4⟩ := zb_ce_val r2.1 go.2
  rw [c1, Option.bind_some]
  refine zb_Wpos c2 ?_
  rw [c3]
  refine zb_Wpos (by first | omega | (simp (disch := omega) only [zb_lit, zb_n_add, zb_n_mul, zb_n_ix, zb_n_lt, zb_n_le, zb_n_eq, zb_ib_n] <;> omega)) ?_
  refine zb_Wlet ?_
  rw [zb_n_ix (by omega), c4 w hw]
  have v1 := zb_v1_lo r2.1 go.2 w
  unfold zb_v
  by_cases q : 0 ≤ zb_v1 LE (zb_lo LO LD o d K) w
  · rw [if_pos q]
    exact zb_Wneg (zb_ge0' q (by omega)) (zb_Wsome ⟨rfl, r2, r3⟩)
  · rw [if_neg q]
    refine zb_Wpos (by rw [show (0 : Int32) = zb_i 0 from zb_n_i 0, zb_i_lt (by omega) (by omega) (by omega) (by omega)]; omega) ?_
    refine zb_Wbind2 (zb_inForce r2 (o := -1) (by omega) (by omega) hd hd9) (fun r' hr' => ?_)
    obtain ⟨s1, s2, s3⟩ := hr'
    rw [s1]
    refine zb_Wpos (zb_ce_ok s2.1.2.2.1 gc.2) ?_
    obtain ⟨c', c1', c2', c3', c4'⟩ := zb_ce_val s2.1 gc.2
    rw [c1', Option.bind_some]
    refine zb_Wpos c2' ?_
    rw [c3']
    refine zb_Wpos (by first | omega | (simp (disch := omega) only [zb_lit, zb_n_add, zb_n_mul, zb_n_ix, zb_n_lt, zb_n_le, zb_n_eq, zb_ib_n] <;> omega)) ?_
    refine zb_Wlet ?_
    rw [c4' w hw]
    have v2 := zb_v1_lo s2.1 gc.2 w
    by_cases q2 : 0 ≤ zb_v1 LE (zb_lo LO LD (-1) d K) w
    · rw [if_pos q2]
      exact zb_Wneg (zb_ge0' q2 (by omega)) (zb_Wsome ⟨rfl, s2, zb_fx_trans r3 s3⟩)
    · rw [if_neg q2]
      refine zb_Wpos (by rw [show (0 : Int32) = zb_i 0 from zb_n_i 0, zb_i_lt (by omega) (by omega) (by omega) (by omega)]; omega) ?_
      rw [zb_usual hw]
      exact zb_Wbind (zb_Wsome (zb_Wsome ⟨rfl, s2, zb_fx_trans r3 s3⟩))
end XLW
