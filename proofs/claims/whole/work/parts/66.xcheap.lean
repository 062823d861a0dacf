/-! the class's carriage -/
def zb_ct (f : Nat → Int) : Nat → Nat
  | 0 => 0
  | r + 1 => zb_ct f r + (if 0 ≤ f r then 1 else 0)
theorem zb_ct_le {f : Nat → Int} : ∀ r, zb_ct f r ≤ r
  | 0 => Nat.le_refl _
  | r + 1 => by have := zb_ct_le (f := f) r; simp only [zb_ct]; split <;> omega
theorem zb_ct_mono {f : Nat → Int} {r q : Nat} (h : r ≤ q) : zb_ct f r ≤ zb_ct f q := by
  induction q with
  | zero => rw [show r = 0 by omega]; exact Nat.le_refl _
  | succ q ih =>
    by_cases e : r = q + 1
    · rw [e]; exact Nat.le_refl _
    · have := ih (by omega); simp only [zb_ct]; omega
theorem zb_ct_inj {f : Nat → Int} {r q : Nat} (h1 : 0 ≤ f r) (h2 : 0 ≤ f q) (h : zb_ct f r = zb_ct f q) : r = q := by
  have a1 : zb_ct f (r + 1) = zb_ct f r + 1 := by simp only [zb_ct]; rw [if_pos h1]
  have a2 : zb_ct f (q + 1) = zb_ct f q + 1 := by simp only [zb_ct]; rw [if_pos h2]
  by_cases e1 : r < q
  · have := zb_ct_mono (f := f) (r := r + 1) (q := q) (by omega); omega
  · by_cases e2 : q < r
    · have := zb_ct_mono (f := f) (r := q + 1) (q := r) (by omega); omega
    · omega
/-- the next that serves -/
theorem zb_ct_nx {f : Nat → Int} {Q : Nat} : ∀ (m r : Nat), r + m = Q → zb_ct f r < zb_ct f Q → ∃ q, r ≤ q ∧ q < Q ∧ 0 ≤ f q ∧ zb_ct f q = zb_ct f r ∧ ∀ j, r ≤ j → j < q → f j < 0
  | 0, r, h, h2 => by rw [show r = Q by omega] at h2; omega
  | m + 1, r, h, h2 => by
    by_cases e : 0 ≤ f r
    · exact ⟨r, Nat.le_refl _, by omega, e, rfl, fun j a b => by omega⟩
    · have e1 : zb_ct f (r + 1) = zb_ct f r := by simp only [zb_ct]; rw [if_neg e]; rfl
      obtain ⟨q, q1, q2, q3, q4, q5⟩ := zb_ct_nx (f := f) (Q := Q) m (r + 1) (by omega) (by omega)
      refine ⟨q, by omega, q2, q3, by omega, fun j a b => ?_⟩
      by_cases w : j = r
      · subst w; omega
      · exact q5 j (by omega) b
theorem zb_Sm_skip {f : Nat → Int} {Fr To : Nat → Nat} {g : Nat → Int} {s r : Nat} : ∀ q, r ≤ q → (∀ j, r ≤ j → j < q → f j < 0) → zb_Sm f Fr To g q s = zb_Sm f Fr To g r s := by
  intro q
  induction q with
  | zero => intro h _; rw [show r = 0 by omega]
  | succ q ih =>
    intro h hn
    by_cases e : r = q + 1
    · rw [e]
    · have a := hn q (by omega) (by omega)
      simp only [zb_Sm]
      rw [if_neg (by omega)]
      exact ih (by omega) (fun j x y => hn j x (by omega))
/-- rates as the carriage sees them -/
def zb_RC (Q : Nat) (Fr To Ow : Nat → Nat) (s : sv_S) : Prop := Q ≤ 60 ∧ s.1 88 4 = zb_n Q ∧ ∀ r, r < Q → s.1 (91 + r) 2 = zb_n (Ow r) ∧ s.1 (91 + r) 3 = zb_n (Fr r) ∧ s.1 (91 + r) 4 = zb_n (To r) ∧ Ow r < 6 ∧ Fr r < 16 ∧ To r < 16
def zb_PC (Q : Nat) (f : Nat → Int) (s : sv_S) : Prop := (∀ r, r < Q → s.1 160 r = zb_i (f r)) ∧ s.1 159 4 = zb_n (zb_ct f Q) ∧ ∀ r, r < Q → 0 ≤ f r → s.1 161 (zb_ct f r) = zb_n r
def zb_RW (f : Nat → Int) (Fr To : Nat → Nat) (Q b L : Nat) (s : sv_S) : Prop := s.1 159 5 = zb_n L ∧ L ≤ 8 ∧ (∀ k x, k ≤ L → x < 16 → s.1 162 (16 * k + x) = zb_i (zb_Sx f Fr To Q b k x)) ∧ ∀ x, x < 16 → zb_Sx f Fr To Q b L x = zb_Sx f Fr To Q b 8 x
section XCH
variable {f : Nat → Int} {Fr To Ow : Nat → Nat} {Q b : Nat} {s : sv_S}
theorem zb_ok91 {r : Nat} (h : r < 60) : ss_ok2 s (91 + r) 5 = true := by
  unfold ss_ok2
  rw [decide_eq_true_eq]
  refine ⟨?_, by omega, by omega⟩
  have : ∀ r, r < 60 → ss_K (91 + r) = 5 := by decide +kernel
  exact this r h
theorem zb_row {r : Nat} (h : r < 60) : F_Rs_row (zb_n r) s = some (91 + r) := by
  unfold F_Rs_row
  rw [if_pos (by rw [zb_ib_n (by omega)]; exact h), zb_n_ix (by omega)]
theorem zb_RC_fr {L : List Nat} {u : sv_S} (h : zb_RC Q Fr To Ow s) (hf : zb_fr L s u) (h1 : L.contains 88004 = false) (h2 : L.contains 91 = false) : zb_RC Q Fr To Ow u := by
  refine ⟨h.1, (hf.1 88 4 h1).trans h.2.1, fun r hr => ?_⟩
  have k : ∀ j, u.1 (91 + r) j = s.1 (91 + r) j := fun j => hf.1 _ _ (by rw [zb_rg91 (by have := h.1; omega)]; exact h2)
  rw [k, k, k]; exact h.2.2 r hr
theorem zb_PC_fr {L : List Nat} {u : sv_S} (h : zb_PC Q f s) (hf : zb_fr L s u) (hL : [160, 161, 159004].all (fun x => !L.contains x) = true) : zb_PC Q f u :=
  ⟨fun r hr => (hf.1 160 r (zb_no_in hL (x := 160) (by decide))).trans (h.1 r hr), (hf.1 159 4 (zb_no_in hL (x := 159004) (by decide))).trans h.2.1, fun r hr q => (hf.1 161 _ (zb_no_in hL (x := 161) (by decide))).trans (h.2.2 r hr q)⟩
/-- one leg more -/
theorem zb_addLeg (hf : ∀ r, r < Q → f r ≤ 4000000) (hC : zb_RC Q Fr To Ow s) (hP : zb_PC Q f s) {n : Nat} (hn : n < 8) (hr : ∀ x, x < 16 → s.1 162 (16 * n + x) = zb_i (zb_Sx f Fr To Q b n x)) : zb_W (F_Ca_addLeg (zb_n (n + 1)) s) (fun r => zb_fr [162] s r.2 ∧ (∀ j, j < 16 * (n + 1) → r.2.1 162 j = s.1 162 j) ∧ (∀ x, x < 16 → r.2.1 162 (16 * (n + 1) + x) = zb_i (zb_Sx f Fr To Q b (n + 1) x)) ∧ ∃ hp : Bool, r.1 = zb_b hp ∧ (hp = false → ∀ x, x < 16 → zb_Sx f Fr To Q b (n + 1) x = zb_Sx f Fr To Q b n x)) := by
  have hQ := hC.1
  have mu := zb_Sx_mu (f := f) (Fr := Fr) (To := To) (Q := Q) (b := b)
  have ctl := zb_ct_le (f := f) Q
  unfold F_Ca_addLeg
  refine zb_Wlet (zb_Wlet ?_)
  have e1 : zb_n (n + 1) * (16 : Int32) = zb_n (16 * (n + 1)) := by rw [show (16 : Int32) = zb_n 16 from rfl, zb_n_mul, Nat.mul_comm]
  have e2 : zb_n (16 * (n + 1)) - (16 : Int32) = zb_n (16 * n) := by rw [show (16 : Int32) = zb_n 16 from rfl, zb_n_sub (by omega)]; congr 1
  rw [e1, e2]
  have cp : sv_cpb (zb_n (16 * n)) (zb_n (16 * (n + 1))) (16 : Int32) 144 144 = true := by
    unfold sv_cpb
    rw [decide_eq_true_eq, show (16 : Int32) = zb_n 16 from rfl, show (0 : Int32) = zb_n 0 from rfl, zb_n_ix (by omega), zb_n_ix (by omega), zb_n_ix (by omega), zb_n_lt (by omega) (by omega), zb_n_lt (by omega) (by omega), zb_n_lt (by omega) (by omega)]
    omega
  refine zb_Wpos cp (zb_Wlet ?_)
  have e3 : (16 : Int32).toNatClampNeg = 16 := zb_n_ix (k := 16) (by omega)
  rw [zb_n_ix (by omega), zb_n_ix (by omega), e3]
  have c1 : ∀ j, (ss_cpyI s 162 162 (16 * n) (16 * (n + 1)) 16).1 162 j = if 16 * (n + 1) ≤ j ∧ j < 16 * (n + 1) + 16 then s.1 162 (16 * n + (j - 16 * (n + 1))) else s.1 162 j := fun j => by show sv_cpI s.1 162 162 _ _ _ 162 j = _; unfold sv_cpI va_cpy; rw [if_pos rfl]
  have c2 : zb_fr [162] s (ss_cpyI s 162 162 (16 * n) (16 * (n + 1)) 16) := by
    refine ⟨fun c k h => ?_, rfl⟩
    show sv_cpI s.1 162 162 _ _ _ c k = _
    unfold sv_cpI
    rw [if_neg]
    intro e; subst e
    have h' : [162].contains (zb_rg 162 k) = true := rfl
    rw [h'] at h; cases h
  generalize ss_cpyI s 162 162 (16 * n) (16 * (n + 1)) 16 = u at c1 c2 ⊢
  -- the loop over those that serve
  refine zb_while (fun m (p : Nat × Bool × sv_S) => F_Ca_addLeg_b31 m (zb_n (16 * (n + 1))) (zb_n (16 * n)) (zb_b p.2.1) (zb_n p.1) p.2.2)
    (fun p => ∃ r, r ≤ Q ∧ zb_ct f r = p.1 ∧ zb_fr [162] s p.2.2 ∧ (∀ j, j < 16 * (n + 1) → p.2.2.1 162 j = s.1 162 j) ∧ (∀ x, x < 16 → p.2.2.1 162 (16 * (n + 1) + x) = zb_i (zb_Sm f Fr To (zb_Sx f Fr To Q b n) r x)) ∧ (p.2.1 = false → ∀ x, x < 16 → zb_Sm f Fr To (zb_Sx f Fr To Q b n) r x = zb_Sx f Fr To Q b n x))
    (fun p => 60 - p.1) ?_ ss_F (0, false, u) ⟨0, by omega, rfl, c2, fun j hj => by show u.1 162 j = _; rw [c1, if_neg (by omega)], fun x hx => ?_, fun _ x _ => rfl⟩ (by unfold ss_F; simp)
  · intro m p hI ih
    obtain ⟨k, hp, v⟩ := p
    obtain ⟨r, r1, r2, r3, r4, r5, r6⟩ := hI
    dsimp only at r2 r3 r4 r5 r6 ⊢
    have ctr := zb_ct_le (f := f) r
    have hv := zb_RC_fr hC r3 rfl rfl
    have pv := zb_PC_fr hP r3 (by decide)
    simp only [F_Ca_addLeg_b31]
    rw [pv.2.1]
    by_cases q : zb_ct f Q ≤ k
    · refine zb_Wpos (by rw [zb_n_le (by omega) (by omega)]; exact q) (zb_Wpos zb_bl_b (zb_Wsome ?_))
      have same : ∀ x, zb_Sm f Fr To (zb_Sx f Fr To Q b n) Q x = zb_Sm f Fr To (zb_Sx f Fr To Q b n) r x := by
        intro x
        refine zb_Sm_skip Q r1 (fun j j1 j2 => ?_)
        by_cases w : f j < 0
        · exact w
        · have a1 : zb_ct f (j + 1) = zb_ct f j + 1 := by simp only [zb_ct]; rw [if_pos (by omega)]
          have a2 := zb_ct_mono (f := f) (r := r) (q := j) j1
          have a3 := zb_ct_mono (f := f) (r := j + 1) (q := Q) (by omega)
          omega
      refine ⟨r3, r4, fun x hx => ?_, hp, rfl, fun e x hx => ?_⟩
      · rw [r5 x hx, ← same x]; rfl
      · show zb_Sm f Fr To (zb_Sx f Fr To Q b n) Q x = _
        rw [same x]; exact r6 e x hx
    · refine zb_Wneg (by rw [zb_n_le (by omega) (by omega)]; exact q) ?_
      obtain ⟨j, j1, j2, j3, j4, j5⟩ := zb_ct_nx (f := f) (Q := Q) (Q - r) r (by omega) (by omega)
      have e161 : v.1 161 k = zb_n j := by rw [← r2, ← j4]; exact pv.2.2 j j2 j3
      have e160 : v.1 160 j = zb_i (f j) := pv.1 j j2
      obtain ⟨t1, t2, t3, t4, t5, t6⟩ := hv.2.2 j j2
      have sk : ∀ x, zb_Sm f Fr To (zb_Sx f Fr To Q b n) j x = zb_Sm f Fr To (zb_Sx f Fr To Q b n) r x := fun x => zb_Sm_skip j j1 j5
      have ef : v.1 162 (16 * n + To j) = zb_i (zb_Sx f Fr To Q b n (To j)) := by rw [r4 _ (by omega)]; exact hr _ t6
      have eg : v.1 162 (16 * (n + 1) + Fr j) = zb_i (zb_Sm f Fr To (zb_Sx f Fr To Q b n) j (Fr j)) := by rw [r5 _ t5, sk]
      have m1 := mu n (To j)
      have fj := hf j j2
      have m2 : zb_Sm f Fr To (zb_Sx f Fr To Q b n) j (Fr j) ≤ zb_mu := Int.le_trans (zb_Sm_le _ _) (mu n (Fr j)).2
      have m3 : 0 ≤ zb_Sm f Fr To (zb_Sx f Fr To Q b n) j (Fr j) := by
        rcases zb_Sm_ex (f := f) (Fr := Fr) (To := To) (g := zb_Sx f Fr To Q b n) j (Fr j) with h | ⟨z, z1, z2, z3, z4⟩
        · rw [h]; exact (mu n _).1
        · have := (mu n (To z)).1; omega
      unfold zb_mu at m1 m2
      have sj : ∀ x, zb_Sm f Fr To (zb_Sx f Fr To Q b n) (j + 1) x = if Fr j = x ∧ f j + zb_Sx f Fr To Q b n (To j) < zb_Sm f Fr To (zb_Sx f Fr To Q b n) j x then f j + zb_Sx f Fr To Q b n (To j) else zb_Sm f Fr To (zb_Sx f Fr To Q b n) j x := by
        intro x
        simp only [zb_Sm]
        by_cases w : Fr j = x ∧ f j + zb_Sx f Fr To Q b n (To j) < zb_Sm f Fr To (zb_Sx f Fr To Q b n) j x
        · rw [if_pos w, if_pos ⟨j3, w⟩]
        · rw [if_neg w, if_neg (fun z => w z.2)]
      have c1' : zb_ct f (j + 1) = k + 1 := by simp only [zb_ct]; rw [if_pos j3]; omega
      refine zb_Wpos (by first | omega | (simp (disch := omega) only [zb_lit, zb_n_add, zb_n_mul, zb_n_ix, zb_n_lt, zb_n_le, zb_n_eq, zb_ib_n] <;> omega)) ?_
      rw [zb_n_ix (by omega), e161, zb_row (by omega)]
      refine zb_Wbind (zb_Wsome ?_)
      refine zb_Wpos (zb_ok91 (by omega)) ?_
      rw [t2, t3]
      simp (disch := omega) only [zb_lit, zb_n_add, zb_n_mul, zb_n_ix, zb_n_lt, zb_n_le, zb_n_eq, zb_ib_n, e160, ef, eg, zb_i_add, zb_i_le]
      rw [if_pos (by omega), if_pos (by omega), if_pos (by omega)]
      refine zb_Wlet ?_
      refine zb_Wpos (by omega) ?_
      simp (disch := omega) only [zb_i_le]
      refine zb_Wif (fun w => ?_) (fun w => ?_)
      · unfold F_Ca_addLeg_b117
        refine zb_Wlet ?_
        simp (disch := omega) only [zb_lit, zb_n_add, zb_n_mul, zb_n_ix, zb_n_lt, zb_n_le, zb_n_eq, zb_ib_n]
        refine ih (k + 1, hp, v) ⟨j + 1, by omega, c1', r3, r4, fun x hx => ?_, fun e x hx => ?_⟩ (by simp only; omega)
        · rw [sj x, if_neg, sk]; exact r5 x hx
          intro z; rw [← z.1] at z; omega
        · rw [sj x, if_neg, sk]; exact r6 e x hx
          intro z; rw [← z.1] at z; omega
      · refine zb_Wpos (by omega) (zb_Wlet ?_)
        unfold F_Ca_addLeg_b117
        refine zb_Wlet ?_
        simp (disch := omega) only [zb_lit, zb_n_add, zb_n_mul, zb_n_ix, zb_n_lt, zb_n_le, zb_n_eq, zb_ib_n]
        refine ih (k + 1, true, ss_setI v 162 (16 * (n + 1) + Fr j) (zb_i (zb_Sx f Fr To Q b n (To j) + f j))) ⟨j + 1, by omega, c1', zb_fr_set r3 rfl, fun i hi => ?_, fun x hx => ?_, fun e => by cases e⟩ (by simp only; omega)
        · rw [zb_set_ne (by omega)]; exact r4 i hi
        · rw [sj x]
          by_cases z : Fr j = x
          · subst z; rw [zb_set_eq, if_pos ⟨rfl, by omega⟩]; congr 1; omega
          · rw [if_neg (fun y => z y.1), zb_set_ne (by omega), sk]; exact r5 x hx
  · show u.1 162 _ = _
    rw [c1, if_pos (by omega), Nat.add_sub_cancel_left, hr x hx]; rfl
theorem zb_Sx_stop {L : Nat} (hT : ∀ r, r < Q → To r < 16) (h : ∀ x, x < 16 → zb_Sx f Fr To Q b (L + 1) x = zb_Sx f Fr To Q b L x) : ∀ m, L ≤ m → ∀ x, x < 16 → zb_Sx f Fr To Q b m x = zb_Sx f Fr To Q b L x := by
  intro m
  induction m with
  | zero => intro hm x _; rw [show L = 0 by omega]
  | succ m ih =>
    intro hm x hx
    by_cases e : L = m + 1
    · rw [e]
    · have i := ih (by omega)
      have key : ∀ k, k ≤ Q → zb_Sm f Fr To (zb_Sx f Fr To Q b m) k x = zb_Sm f Fr To (zb_Sx f Fr To Q b L) k x := by
        intro k
        induction k with
        | zero => intro _; exact i x hx
        | succ k ihk =>
          intro hk
          simp only [zb_Sm]
          rw [ihk (by omega), i (To k) (hT k (by omega))]
      have : zb_Sx f Fr To Q b (m + 1) x = zb_Sx f Fr To Q b (L + 1) x := key Q (Nat.le_refl _)
      rw [this, h x hx]
theorem zb_reach (hf : ∀ r, r < Q → f r ≤ 4000000) (hC : zb_RC Q Fr To Ow s) (hP : zb_PC Q f s) (hb : b < 16) : zb_W (F_Ca_reach (zb_n b) s) (fun u => zb_fr [162, 159005] s u ∧ ∃ L, zb_RW f Fr To Q b L u) := by
  have hT : ∀ r, r < Q → To r < 16 := fun r hr => (hC.2.2 r hr).2.2.2.2.2
  unfold F_Ca_reach
  refine zb_for (fun n x u => F_Ca_reach_b2 n (zb_n b) (zb_n x) u) 16 (fun x u => zb_fr [162, 159005] s u ∧ ∀ y, y < x → u.1 162 y = zb_i (zb_Sx f Fr To Q b 0 y)) ?_ ?_ ss_F 0 s (by omega) (by unfold ss_F; omega) ⟨zb_fr_refl _ _, fun y hy => absurd hy (by omega)⟩
  · intro n u hu
    simp only [F_Ca_reach_b2]
    refine zb_Wpos (by first | omega | (simp (disch := omega) only [zb_lit, zb_n_add, zb_n_mul, zb_n_ix, zb_n_lt, zb_n_le, zb_n_eq, zb_ib_n] <;> omega)) ?_
    refine zb_Wlet ?_
    have loop := zb_for (Q := fun u => zb_fr [162, 159005] s u ∧ ∃ L, zb_RW f Fr To Q b L u) (fun n k u => F_Ca_reach_b38 n (zb_n (k + 1)) u) 8 (fun k v => zb_fr [162, 159005] s v ∧ v.1 159 5 = zb_n k ∧ ∀ j x, j ≤ k → x < 16 → v.1 162 (16 * j + x) = zb_i (zb_Sx f Fr To Q b j x)) ?_ ?_ ss_F 0 (ss_setI u 159 5 0) (by omega) (by unfold ss_F; omega) ⟨zb_fr_set hu.1 rfl, zb_set_eq, fun j x hj hx => by rw [zb_set_ne (by omega), show j = 0 by omega, Nat.mul_zero, Nat.zero_add]; exact hu.2 x hx⟩
    · exact loop
    · intro m v hv
      simp only [F_Ca_reach_b38]
      refine zb_Wpos (by first | omega | (simp (disch := omega) only [zb_lit, zb_n_add, zb_n_mul, zb_n_ix, zb_n_lt, zb_n_le, zb_n_eq, zb_ib_n] <;> omega)) ?_
      exact zb_Wsome ⟨hv.1, 8, hv.2.1, by omega, hv.2.2, fun x _ => rfl⟩
    · intro m k v hk hv ih
      simp only [F_Ca_reach_b38]
      refine zb_Wneg (by first | omega | (simp (disch := omega) only [zb_lit, zb_n_add, zb_n_mul, zb_n_ix, zb_n_lt, zb_n_le, zb_n_eq, zb_ib_n] <;> omega)) ?_
      refine zb_Wbind2 (zb_addLeg hf (zb_RC_fr hC hv.1 rfl rfl) (zb_PC_fr hP hv.1 (by decide)) hk (fun x hx => hv.2.2 k x (Nat.le_refl _) hx)) (fun r hr => ?_)
      obtain ⟨a1, a2, a3, hp, a4, a5⟩ := hr
      have f2 : zb_fr [162, 159005] s r.2 := zb_fr_trans hv.1 (zb_fr_mono a1 (by decide))
      rw [a4]
      cases hp with
      | false =>
        refine zb_Wpos rfl (zb_Wsome ⟨f2, k, (a1.1 159 5 rfl).trans hv.2.1, by omega, fun j x hj hx => ?_, fun x hx => ?_⟩)
        · rw [a2 _ (by omega)]; exact hv.2.2 j x hj hx
        · exact (zb_Sx_stop hT (a5 rfl) 8 (by omega) x hx).symm
      | true =>
        refine zb_Wneg (by decide) (zb_Wlet (zb_Wlet ?_))
        rw [show zb_n (k + 1) + (1 : Int32) = zb_n (k + 1 + 1) from zb_n_add (k + 1) 1]
        refine ih _ ⟨zb_fr_set f2 rfl, zb_set_eq, fun j x hj hx => ?_⟩
        rw [zb_set_ne (by omega)]
        by_cases e : j = k + 1
        · subst e; exact a3 x hx
        · rw [a2 _ (by omega)]; exact hv.2.2 j x (by omega) hx
  · intro n x u hx hu ih
    simp only [F_Ca_reach_b2, F_Ca_reach_b24]
    refine zb_Wneg (by first | omega | (simp (disch := omega) only [zb_lit, zb_n_add, zb_n_mul, zb_n_ix, zb_n_lt, zb_n_le, zb_n_eq, zb_ib_n] <;> omega)) ?_
    have st : ∀ v : Int32, v = zb_i (zb_Sx f Fr To Q b 0 x) → zb_W (if sv_ib (zb_n x) 144 = true then ss_let (ss_setI u 162 (zb_n x).toNatClampNeg v) fun s5 => ss_let (zb_n x + (1 : Int32)) fun v6 => F_Ca_reach_b2 n (zb_n b) v6 s5 else none) (fun u => zb_fr [162, 159005] s u ∧ ∃ L, zb_RW f Fr To Q b L u) := by
      intro v hv
      refine zb_Wpos (by first | omega | (simp (disch := omega) only [zb_lit, zb_n_add, zb_n_mul, zb_n_ix, zb_n_lt, zb_n_le, zb_n_eq, zb_ib_n] <;> omega)) ?_
      refine zb_Wlet (zb_Wlet ?_)
      simp (disch := omega) only [zb_lit, zb_n_add, zb_n_mul, zb_n_ix, zb_n_lt, zb_n_le, zb_n_eq, zb_ib_n]
      refine ih _ ⟨zb_fr_set hu.1 rfl, fun y hy => ?_⟩
      by_cases e : y = x
      · subst e; rw [zb_set_eq, hv]
      · rw [zb_set_ne (by omega)]; exact hu.2 y (by omega)
    by_cases e : x = b
    · refine zb_Wpos (by rw [e]) (st 0 ?_)
      simp only [zb_Sx]; rw [if_pos e]; exact zb_n_i 0
    · refine zb_Wneg (by rw [zb_n_eq (by omega) (by omega)]; exact e) (st _ ?_)
      simp only [zb_Sx]; rw [if_neg e]; exact zb_n_i 1000000000
end XCH
