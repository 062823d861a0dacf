/-! the model's fewest miles -/
def zb_gd (s : sv_S) (c : Nat) (f : Nat → Nat → Int) : Prop := ∀ x y, x < 16 → y < 16 → s.1 c (16 * x + y) = zb_i (f x y)
theorem zb_gd_congr {s : sv_S} {c : Nat} {f g : Nat → Nat → Int} (h : zb_gd s c f) (e : ∀ x y, x < 16 → y < 16 → f x y = g x y) : zb_gd s c g := fun x y hx hy => by rw [h x y hx hy, e x y hx hy]
theorem zb_gd_set {s : sv_S} {c : Nat} {f g : Nat → Nat → Int} {a b : Nat} {v : Int} (h : zb_gd s c f) (ha : a < 16) (hb : b < 16) (h1 : g a b = v) (e : ∀ x y, x < 16 → y < 16 → ¬ (x = a ∧ y = b) → f x y = g x y) : zb_gd (ss_setI s c (16 * a + b) (zb_i v)) c g := by
  intro x y hx hy
  by_cases q : x = a ∧ y = b
  · obtain ⟨rfl, rfl⟩ := q
    rw [zb_set_eq, h1]
  · rw [zb_set_ne (by omega), h x y hx hy, e x y hx hy q]
theorem zb_gd_fr {L : List Nat} {s t : sv_S} {c : Nat} {f : Nat → Nat → Int} (h : zb_gd s c f) (hf : zb_fr L s t) (hc : ∀ k, L.contains (zb_rg c k) = false) : zb_gd t c f := fun x y hx hy => (hf.1 c _ (hc _)).trans (h x y hx hy)
section FF
variable {Q : sv_S → Prop} {d : Nat → Nat → Int} {s0 : sv_S}
/-- progress of one station between: rows below a, and row a below b -/
def zb_pg (d : Nat → Nat → Int) (m a b : Nat) (x y : Nat) : Int := if x < a ∨ (x = a ∧ y < b) then min (d x y) (d x m + d m y) else d x y
theorem zb_pg_row {m a b x : Nat} (h : d m m = 0) (h1 : ∀ x y, x < 16 → y < 16 → 0 ≤ d x y) (hm : m < 16) (hx : x < 16) : zb_pg d m a b x m = d x m ∧ zb_pg d m a b m x = d m x := by
  have := h1 x m hx hm; have := h1 m x hm hx
  unfold zb_pg; rw [h]; constructor <;> split <;> omega
theorem zb_ff192 {m a : Nat} {kc175 : Int32 → sv_S → Option sv_S} {kc183 : Int32 → Int32 → sv_S → Option sv_S} (hm : m < 16) (ha : a < 16) (h0 : d m m = 0) (h1 : ∀ x y, x < 16 → y < 16 → 0 ≤ d x y ∧ d x y ≤ 100000)
    (k : ∀ s, zb_fr [192] s0 s → zb_gd s 192 (zb_pg d m (a + 1) 0) → zb_W (kc183 (zb_n m) (zb_n (a + 1)) s) Q) :
    ∀ (n b : Nat) (s : sv_S), b ≤ 16 → 16 < n + b → (zb_fr [192] s0 s ∧ zb_gd s 192 (zb_pg d m a b)) → zb_W (F_Mo_findFar_b192 kc175 kc183 n (zb_n m) (zb_n a) (zb_n b) s) Q := by
  refine zb_for (fun n b s => F_Mo_findFar_b192 kc175 kc183 n (zb_n m) (zb_n a) (zb_n b) s) 16 _ ?_ ?_
  · intro n s hI
    simp only [F_Mo_findFar_b192, ss_let]
    rw [if_pos (by simp (disch := omega) only [zb_lit, zb_n_add, zb_n_mul, zb_n_ix, zb_n_lt, zb_n_le, zb_n_eq, zb_ib_n]; omega)]
    simp (disch := omega) only [zb_lit, zb_n_add, zb_n_mul, zb_n_ix, zb_n_lt, zb_n_le, zb_n_eq, zb_ib_n]
    refine k s hI.1 (zb_gd_congr hI.2 fun x y hx hy => ?_)
    unfold zb_pg
    by_cases q : x < a + 1
    · rw [if_pos (by omega), if_pos (by omega)]
    · rw [if_neg (by omega), if_neg (by omega)]
  · intro n b s hb hI ih
    have hpos : ∀ x y, x < 16 → y < 16 → 0 ≤ d x y := fun x y hx hy => (h1 x y hx hy).1
    have r1 : s.1 192 (16 * a + m) = zb_i (d a m) := by rw [hI.2 a m ha hm, (zb_pg_row h0 hpos hm ha).1]
    have r2 : s.1 192 (16 * m + b) = zb_i (d m b) := by rw [hI.2 m b hm hb, (zb_pg_row h0 hpos hm hb).2]
    have r3 : s.1 192 (16 * a + b) = zb_i (d a b) := by rw [hI.2 a b ha hb]; unfold zb_pg; rw [if_neg (by omega)]
    have p1 := h1 a m ha hm
    have p2 := h1 m b hm hb
    have p3 := h1 a b ha hb
    simp only [F_Mo_findFar_b192, F_Mo_findFar_b256, ss_let]
    simp (disch := omega) only [zb_lit, zb_n_add, zb_n_mul, zb_n_ix, zb_n_lt, zb_n_le, zb_n_eq, zb_ib_n]
    rw [if_neg (by omega), if_pos (by omega), if_pos (by omega), if_pos (by omega), r1, r2, r3, zb_i_add]
    simp (disch := omega) only [zb_i_le]
    refine zb_Wif (fun q => ?_) (fun q => ?_)
    · refine ih s ⟨hI.1, zb_gd_congr hI.2 fun x y hx hy => ?_⟩
      unfold zb_pg
      by_cases t : x = a ∧ y = b
      · rw [t.1, t.2, if_neg (by omega), if_pos (by omega)]; omega
      · by_cases u : x < a ∨ x = a ∧ y < b
        · rw [if_pos u, if_pos (by omega)]
        · rw [if_neg u, if_neg (by omega)]
    · rw [if_pos (by omega)]
      refine ih _ ⟨zb_fr_set hI.1 rfl, zb_gd_set hI.2 ha hb ?_ fun x y hx hy t => ?_⟩
      · unfold zb_pg; rw [if_pos (by omega)]; omega
      · unfold zb_pg
        by_cases u : x < a ∨ x = a ∧ y < b
        · rw [if_pos u, if_pos (by omega)]
        · rw [if_neg u, if_neg (by omega)]
theorem zb_ff183 {m : Nat} {kc175 : Int32 → sv_S → Option sv_S} (hm : m < 16) (h0 : d m m = 0) (h1 : ∀ x y, x < 16 → y < 16 → 0 ≤ d x y ∧ d x y ≤ 100000)
    (k : ∀ s, zb_fr [192] s0 s → zb_gd s 192 (fun x y => min (d x y) (d x m + d m y)) → zb_W (kc175 (zb_n (m + 1)) s) Q) :
    ∀ (n a : Nat) (s : sv_S), a ≤ 16 → 16 < n + a → (zb_fr [192] s0 s ∧ zb_gd s 192 (zb_pg d m a 0)) → zb_W (F_Mo_findFar_b183 kc175 n (zb_n m) (zb_n a) s) Q := by
  refine zb_for (fun n a s => F_Mo_findFar_b183 kc175 n (zb_n m) (zb_n a) s) 16 _ ?_ ?_
  · intro n s hI
    simp only [F_Mo_findFar_b183, ss_let]
    rw [if_pos (by simp (disch := omega) only [zb_lit, zb_n_add, zb_n_mul, zb_n_ix, zb_n_lt, zb_n_le, zb_n_eq, zb_ib_n]; omega)]
    simp (disch := omega) only [zb_lit, zb_n_add, zb_n_mul, zb_n_ix, zb_n_lt, zb_n_le, zb_n_eq, zb_ib_n]
    refine k s hI.1 (zb_gd_congr hI.2 fun x y hx hy => ?_)
    unfold zb_pg
    rw [if_pos (by omega)]
  · intro n a s ha hI ih
    simp only [F_Mo_findFar_b183]
    rw [if_neg (by simp (disch := omega) only [zb_lit, zb_n_add, zb_n_mul, zb_n_ix, zb_n_lt, zb_n_le, zb_n_eq, zb_ib_n]; omega)]
    exact zb_ff192 (s0 := s0) hm ha h0 h1 (fun s' f g => ih s' ⟨f, g⟩) ss_F 0 s (by omega) (by unfold ss_F; omega) hI
theorem zb_ff175 (h0 : ∀ a, a < 16 → d a a = 0) (h1 : ∀ x y, x < 16 → y < 16 → 0 ≤ d x y ∧ d x y ≤ 100000)
    (k : ∀ s, zb_fr [192] s0 s → zb_gd s 192 (zb_fw d 16) → Q s) :
    ∀ (n m : Nat) (s : sv_S), m ≤ 16 → 16 < n + m → (zb_fr [192] s0 s ∧ zb_gd s 192 (zb_fw d m)) → zb_W (F_Mo_findFar_b175 n (zb_n m) s) Q := by
  refine zb_for (fun n m s => F_Mo_findFar_b175 n (zb_n m) s) 16 _ ?_ ?_
  · intro n s hI
    simp only [F_Mo_findFar_b175]
    rw [if_pos (by simp (disch := omega) only [zb_lit, zb_n_add, zb_n_mul, zb_n_ix, zb_n_lt, zb_n_le, zb_n_eq, zb_ib_n]; omega)]
    exact zb_Wsome (k s hI.1 hI.2)
  · intro n m s hm hI ih
    simp only [F_Mo_findFar_b175]
    rw [if_neg (by simp (disch := omega) only [zb_lit, zb_n_add, zb_n_mul, zb_n_ix, zb_n_lt, zb_n_le, zb_n_eq, zb_ib_n]; omega)]
    obtain ⟨w1, w2, _⟩ := zb_fw_ok h0 h1 m (by omega)
    refine zb_ff183 (s0 := s0) (d := zb_fw d m) hm (w1 m hm) (fun x y hx hy => ⟨(w2 x y hx hy).1, Int.le_trans (w2 x y hx hy).2 (h1 x y hx hy).2⟩) (fun s' f g => ih s' ⟨f, g⟩) ss_F 0 s (by omega) (by unfold ss_F; omega) ⟨hI.1, zb_gd_congr hI.2 fun x y hx hy => ?_⟩
    unfold zb_pg; rw [if_neg (by omega)]
/-- the copy -/
theorem zb_ff148 (h0 : ∀ a, a < 16 → d a a = 0) (h1 : ∀ x y, x < 16 → y < 16 → 0 ≤ d x y ∧ d x y ≤ 100000)
    (k : ∀ s, zb_fr [192] s0 s → zb_gd s 192 (zb_fw d 16) → Q s) (hd : zb_gd s0 193 d) :
    ∀ (n m : Nat) (s : sv_S), m ≤ 256 → 256 < n + m → (zb_fr [192] s0 s ∧ ∀ j, j < m → s.1 192 j = s0.1 193 j) → zb_W (F_Mo_findFar_b148 n (zb_n m) s) Q := by
  refine zb_for (fun n m s => F_Mo_findFar_b148 n (zb_n m) s) 256 _ ?_ ?_
  · intro n s hI
    simp only [F_Mo_findFar_b148]
    rw [if_pos (by simp (disch := omega) only [zb_lit, zb_n_add, zb_n_mul, zb_n_ix, zb_n_lt, zb_n_le, zb_n_eq, zb_ib_n]; omega)]
    exact zb_ff175 (s0 := s0) h0 h1 k ss_F 0 s (by omega) (by unfold ss_F; omega) ⟨hI.1, fun x y hx hy => by rw [hI.2 _ (by omega), hd x y hx hy]; rfl⟩
  · intro n m s hm hI ih
    simp only [F_Mo_findFar_b148, ss_let]
    simp (disch := omega) only [zb_lit, zb_n_add, zb_n_mul, zb_n_ix, zb_n_lt, zb_n_le, zb_n_eq, zb_ib_n]
    rw [if_neg (by omega), if_pos (by omega), if_pos (by omega)]
    refine ih _ ⟨zb_fr_set hI.1 rfl, fun j hj => ?_⟩
    by_cases q : j = m
    · subst q; rw [zb_set_eq]; exact hI.1.1 193 j rfl
    · rw [zb_set_ne (by omega)]; exact hI.2 j (by omega)
/-- the model's lines -/
def zb_RM (n : Nat) (A B : Nat → Nat) (M : Nat → Int) (O : Nat → Nat) (s : sv_S) : Prop :=
  n ≤ 40 ∧ s.1 187 1 = zb_n n ∧ ∀ l, l < n → s.1 188 l = zb_n (O l) ∧ s.1 189 l = zb_n (A l) ∧ s.1 190 l = zb_n (B l) ∧ s.1 191 l = zb_i (M l) ∧ O l < 6 ∧ A l < 16 ∧ B l < 16 ∧ A l ≠ B l ∧ 1 ≤ M l ∧ M l ≤ 200
def zb_ow (O : Nat → Nat) (o : Int) (l : Nat) : Bool := decide (o < 0 ∨ (O l : Int) = o)
variable {N : Nat} {A B : Nat → Nat} {M : Nat → Int} {O : Nat → Nat}
theorem zb_RM_ln {s : sv_S} (h : zb_RM N A B M O s) : zb_ln N A B M := fun l hl => ⟨(h.2.2 l hl).2.2.2.2.2.1, (h.2.2 l hl).2.2.2.2.2.2.1, (h.2.2 l hl).2.2.2.2.2.2.2.1, (h.2.2 l hl).2.2.2.2.2.2.2.2.1, (h.2.2 l hl).2.2.2.2.2.2.2.2.2⟩
theorem zb_RM_fr {L : List Nat} {s t : sv_S} (h : zb_RM N A B M O s) (hf : zb_fr L s t) (hL : [187001, 188, 189, 190, 191].all (fun x => !L.contains x) = true) : zb_RM N A B M O t := by
  have k : ∀ x, x ∈ [187001, 188, 189, 190, 191] → L.contains x = false := fun x hx => by have := List.all_eq_true.mp hL x hx; simpa using this
  refine ⟨h.1, (hf.1 187 1 (k _ (by decide))).trans h.2.1, fun l hl => ?_⟩
  rw [hf.1 188 l (k 188 (by decide)), hf.1 189 l (k 189 (by decide)), hf.1 190 l (k 190 (by decide)), hf.1 191 l (k 191 (by decide))]
  exact h.2.2 l hl
theorem zb_ff41 {o : Int} (ho : -1 ≤ o) (ho2 : o < 6) (hR : zb_RM N A B M O s0)
    (k : ∀ s, zb_fr [192, 193] s0 s → zb_gd s 193 (zb_di A B M (zb_ow O o) 100000 N) → zb_gd s 192 (zb_fw (zb_di A B M (zb_ow O o) 100000 N) 16) → Q s) :
    ∀ (n l : Nat) (s : sv_S), l ≤ N → N < n + l → (zb_fr [193] s0 s ∧ zb_gd s 193 (zb_di A B M (zb_ow O o) 100000 l)) → zb_W (F_Mo_findFar_b41 n (zb_i o) (zb_n l) s) Q := by
  have hln := zb_RM_ln hR
  refine zb_for (fun n l s => F_Mo_findFar_b41 n (zb_i o) (zb_n l) s) N _ ?_ ?_
  · intro n s hI
    have e1 : s.1 187 1 = zb_n N := (hI.1.1 187 1 rfl).trans hR.2.1
    have hN := hR.1
    simp only [F_Mo_findFar_b41]
    rw [if_pos (by rw [e1]; exact Int32.le_refl _)]
    obtain ⟨i1, i2, _, _, _⟩ := zb_di_ok (p := zb_ow O o) (F := 100000) (by omega) N hln
    refine zb_ff148 (s0 := s) (fun a _ => i1 a) (fun x y _ _ => i2 x y) (fun t f g => ?_) hI.2 ss_F 0 s (by omega) (by unfold ss_F; omega) ⟨zb_fr_refl _ _, fun j hj => absurd hj (by omega)⟩
    exact k t (zb_fr_trans (zb_fr_mono hI.1 (by decide)) (zb_fr_mono f (by decide))) (zb_gd_fr hI.2 f (fun _ => rfl)) g
  · intro n l s hl hI ih
    have hN := hR.1
    obtain ⟨q1, q2, q3, q4, q5, q6, q7, q8, q9, q10⟩ := hR.2.2 l hl
    have e1 : s.1 187 1 = zb_n N := (hI.1.1 187 1 rfl).trans hR.2.1
    have e2 : s.1 188 l = zb_n (O l) := (hI.1.1 188 l rfl).trans q1
    have e3 : s.1 189 l = zb_n (A l) := (hI.1.1 189 l rfl).trans q2
    have e4 : s.1 190 l = zb_n (B l) := (hI.1.1 190 l rfl).trans q3
    have e5 : s.1 191 l = zb_i (M l) := (hI.1.1 191 l rfl).trans q4
    obtain ⟨_, i2, _, _, _⟩ := zb_di_ok (p := zb_ow O o) (F := 100000) (by omega) l (fun j hj => hln j (by omega))
    have skip : ¬ zb_ow O o l = true → zb_W (F_Mo_findFar_b140 (F_Mo_findFar_b41 n) (zb_i o) (zb_n l) s) Q := by
      intro h
      simp only [F_Mo_findFar_b140, ss_let]
      simp (disch := omega) only [zb_lit, zb_n_add, zb_n_mul, zb_n_ix, zb_n_lt, zb_n_le, zb_n_eq, zb_ib_n]
      refine ih s ⟨hI.1, zb_gd_congr hI.2 fun x y _ _ => ?_⟩
      simp only [zb_di]; rw [if_neg (fun t => h t.1)]
    have take : zb_ow O o l = true → zb_W (F_Mo_findFar_b66 (F_Mo_findFar_b41 n) (zb_i o) (zb_n l) s) Q := by
      intro h
      unfold F_Mo_findFar_b66
      have e6 : s.1 193 (16 * A l + B l) = zb_i (zb_di A B M (zb_ow O o) 100000 l (A l) (B l)) := hI.2 _ _ q6 q7
      have b1 := i2 (A l) (B l)
      refine zb_Wpos (by first | omega | (simp (disch := omega) only [zb_lit, zb_n_add, zb_n_mul, zb_n_ix, zb_n_lt, zb_n_le, zb_n_eq, zb_ib_n] <;> omega)) ?_
      refine zb_Wpos (by first | omega | (simp (disch := omega) only [zb_lit, zb_n_add, zb_n_mul, zb_n_ix, zb_n_lt, zb_n_le, zb_n_eq, zb_ib_n] <;> omega)) ?_
      refine zb_Wlet ?_
      refine zb_Wpos (by first | omega | (simp (disch := omega) only [zb_lit, zb_n_add, zb_n_mul, zb_n_ix, zb_n_lt, zb_n_le, zb_n_eq, zb_ib_n] <;> omega)) ?_
      refine zb_Wpos (by first | omega | (simp (disch := omega) only [zb_lit, zb_n_add, zb_n_mul, zb_n_ix, zb_n_lt, zb_n_le, zb_n_eq, zb_ib_n, e3, e4] <;> omega)) ?_
      simp (disch := omega) only [zb_lit, zb_n_add, zb_n_mul, zb_n_ix, zb_n_lt, zb_n_le, zb_n_eq, zb_ib_n, e3, e4, e5, e6, zb_i_lt]
      refine zb_Wif (fun q => ?_) (fun q => ?_)
      · refine zb_Wpos (by first | omega | (simp (disch := omega) only [zb_lit, zb_n_add, zb_n_mul, zb_n_ix, zb_n_lt, zb_n_le, zb_n_eq, zb_ib_n] <;> omega)) ?_
        refine zb_Wpos (by first | omega | (simp (disch := omega) only [zb_lit, zb_n_add, zb_n_mul, zb_n_ix, zb_n_lt, zb_n_le, zb_n_eq, zb_ib_n] <;> omega)) ?_
        refine zb_Wlet ?_
        have f1 : (ss_setI s 193 (16 * A l + B l) (zb_i (M l))).1 189 l = zb_n (A l) := (zb_set_ne (by omega)).trans e3
        have f2 : (ss_setI s 193 (16 * A l + B l) (zb_i (M l))).1 190 l = zb_n (B l) := (zb_set_ne (by omega)).trans e4
        have f3 : (ss_setI s 193 (16 * A l + B l) (zb_i (M l))).1 191 l = zb_i (M l) := (zb_set_ne (by omega)).trans e5
        refine zb_Wpos (by first | omega | (simp (disch := omega) only [zb_lit, zb_n_add, zb_n_mul, zb_n_ix, zb_n_lt, zb_n_le, zb_n_eq, zb_ib_n] <;> omega)) ?_
        refine zb_Wpos (by first | omega | (simp (disch := omega) only [zb_lit, zb_n_add, zb_n_mul, zb_n_ix, zb_n_lt, zb_n_le, zb_n_eq, zb_ib_n] <;> omega)) ?_
        refine zb_Wpos (by first | omega | (simp (disch := omega) only [zb_lit, zb_n_add, zb_n_mul, zb_n_ix, zb_n_lt, zb_n_le, zb_n_eq, zb_ib_n] <;> omega)) ?_
        refine zb_Wpos (by first | omega | (simp (disch := omega) only [zb_lit, zb_n_add, zb_n_mul, zb_n_ix, zb_n_lt, zb_n_le, zb_n_eq, zb_ib_n, f1, f2] <;> omega)) ?_
        refine zb_Wlet ?_
        simp (disch := omega) only [zb_lit, zb_n_add, zb_n_mul, zb_n_ix, zb_n_lt, zb_n_le, zb_n_eq, zb_ib_n, f1, f2, f3]
        unfold F_Mo_findFar_b140
        refine zb_Wlet ?_
        simp (disch := omega) only [zb_lit, zb_n_add, zb_n_mul, zb_n_ix, zb_n_lt, zb_n_le, zb_n_eq, zb_ib_n]
        refine ih _ ⟨zb_fr_set (zb_fr_set hI.1 rfl) rfl, ?_⟩
        refine zb_gd_set (f := fun x y => if x = A l ∧ y = B l then M l else zb_di A B M (zb_ow O o) 100000 l x y) (zb_gd_set hI.2 q6 q7 (by simp) fun x y _ _ t => by rw [if_neg t]) q7 q6 ?_ fun x y _ _ t => ?_
        · rw [zb_di_s, if_pos ⟨h, Or.inr ⟨rfl, rfl⟩, by rw [zb_di_comm]; exact q⟩]
        · rw [zb_di_s]
          by_cases u : x = A l ∧ y = B l
          · rw [if_pos u, u.1, u.2, if_pos ⟨h, Or.inl ⟨rfl, rfl⟩, q⟩]
          · rw [if_neg u, if_neg]
            intro v
            rcases v.2.1 with w | w
            · exact u ⟨w.1.symm, w.2.symm⟩
            · exact t ⟨w.2.symm, w.1.symm⟩
      · unfold F_Mo_findFar_b140
        refine zb_Wlet ?_
        simp (disch := omega) only [zb_lit, zb_n_add, zb_n_mul, zb_n_ix, zb_n_lt, zb_n_le, zb_n_eq, zb_ib_n]
        refine ih s ⟨hI.1, zb_gd_congr hI.2 fun x y _ _ => ?_⟩
        rw [zb_di_s, if_neg]
        intro v
        rcases v.2.1 with w | w
        · rw [w.1, w.2] at q; exact q v.2.2
        · rw [w.1, w.2, zb_di_comm] at q; exact q v.2.2
    simp only [F_Mo_findFar_b41]
    simp (disch := omega) only [zb_lit, zb_n_add, zb_n_mul, zb_n_ix, zb_n_lt, zb_n_le, zb_n_eq, zb_ib_n, e1, e2]
    rw [if_neg (by omega)]
    have z : (zb_i o < zb_n 0) = (o < 0) := by rw [zb_n_i]; exact zb_i_lt (by omega) (by omega) (by omega) (by omega)
    have z2 : (zb_n (O l) = zb_i o) = ((O l : Int) = o) := by rw [zb_n_i]; exact zb_i_eq (by omega) (by omega) (by omega) (by omega)
    simp only [z, z2]
    refine zb_Wif (fun q => take ?_) (fun q => ?_)
    · unfold zb_ow; simp [q]
    · rw [if_pos (by omega)]
      refine zb_Wif (fun q2 => take ?_) (fun q2 => skip ?_)
      · unfold zb_ow; simp [q2]
      · unfold zb_ow; simp [q2]; omega
theorem zb_ff2 {o : Int} (ho : -1 ≤ o) (ho2 : o < 6) (hR : zb_RM N A B M O s0)
    (k : ∀ s, zb_fr [192, 193] s0 s → zb_gd s 193 (zb_di A B M (zb_ow O o) 100000 N) → zb_gd s 192 (zb_fw (zb_di A B M (zb_ow O o) 100000 N) 16) → Q s) :
    ∀ (n m : Nat) (s : sv_S), m ≤ 256 → 256 < n + m → (zb_fr [193] s0 s ∧ ∀ x y, x < 16 → y < 16 → 16 * x + y < m → s.1 193 (16 * x + y) = zb_i (if x = y then 0 else 100000)) → zb_W (F_Mo_findFar_b2 n (zb_i o) (zb_n m) s) Q := by
  refine zb_for (fun n m s => F_Mo_findFar_b2 n (zb_i o) (zb_n m) s) 256 _ ?_ ?_
  · intro n s hI
    simp only [F_Mo_findFar_b2]
    rw [if_pos (by simp (disch := omega) only [zb_lit, zb_n_add, zb_n_mul, zb_n_ix, zb_n_lt, zb_n_le, zb_n_eq, zb_ib_n]; omega)]
    have hN := hR.1
    exact zb_ff41 (s0 := s0) ho ho2 hR k ss_F 0 s (by omega) (by unfold ss_F; omega) ⟨hI.1, fun x y hx hy => hI.2 x y hx hy (by omega)⟩
  · intro n m s hm hI ih
    simp only [F_Mo_findFar_b2, F_Mo_findFar_b32, ss_let]
    simp (disch := omega) only [zb_lit, zb_n_add, zb_n_mul, zb_n_ix, zb_n_lt, zb_n_le, zb_n_eq, zb_ib_n, zb_n_div, zb_n_sub]
    have e : ∀ x y, x < 16 → y < 16 → 16 * x + y = m → (x = y ↔ m / 16 = m - m / 16 * 16) := fun x y _ _ _ => by omega
    rw [if_neg (by omega)]
    refine zb_Wif (fun q => ?_) (fun q => ?_)
    · rw [if_pos (by omega)]
      refine ih _ ⟨zb_fr_set hI.1 rfl, fun x y hx hy hxy => ?_⟩
      by_cases t : 16 * x + y = m
      · rw [t, zb_set_eq, if_pos ((e x y hx hy t).2 q)]; rfl
      · rw [zb_set_ne (by omega)]; exact hI.2 x y hx hy (by omega)
    · rw [if_pos (by omega)]
      refine ih _ ⟨zb_fr_set hI.1 rfl, fun x y hx hy hxy => ?_⟩
      by_cases t : 16 * x + y = m
      · rw [t, zb_set_eq, if_neg (fun w => q ((e x y hx hy t).1 w))]; rfl
      · rw [zb_set_ne (by omega)]; exact hI.2 x y hx hy (by omega)
/-- findFar leaves the direct miles and the fewest -/
theorem zb_findFar {o : Int} {s : sv_S} (ho : -1 ≤ o) (ho2 : o < 6) (hR : zb_RM N A B M O s) :
    zb_W (F_Mo_findFar (zb_i o) s) (fun t => zb_fr [192, 193] s t ∧ zb_gd t 193 (zb_di A B M (zb_ow O o) 100000 N) ∧ zb_gd t 192 (zb_fw (zb_di A B M (zb_ow O o) 100000 N) 16)) := by
  unfold F_Mo_findFar
  exact zb_ff2 (s0 := s) ho ho2 hR (fun t f g h => ⟨f, g, h⟩) ss_F 0 s (by omega) (by unfold ss_F; omega) ⟨zb_fr_refl _ _, fun x y _ _ h => absurd h (by omega)⟩
end FF
