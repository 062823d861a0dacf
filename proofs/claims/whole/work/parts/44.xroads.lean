/-! the class's roads -/
def zb_RL (N : Nat) (A B : Nat → Nat) (M : Nat → Int) (O : Nat → Nat) : Prop := N ≤ 40 ∧ zb_ln N A B M ∧ ∀ l, l < N → O l < 6
def zb_RX (N : Nat) (A B : Nat → Nat) (M : Nat → Int) (O : Nat → Nat) (s : sv_S) : Prop :=
  s.1 65 4 = zb_n N ∧ (∀ l, l < N → s.1 66 l = zb_n (O l) ∧ s.1 67 l = zb_i (M l)) ∧ (∀ a b, a < 16 → b < 16 → s.1 68 (16 * a + b) = zb_i (zb_bs A B M N a b)) ∧ ∀ o, o < 7 → ∃ D, zb_gd s (70 + o) D ∧ zb_gr N A B M (fun l => o = 6 ∨ O l = o) 1000000 D
theorem zb_N70 {f : Nat → Nat} {t : Nat} (h : t < 7) : ss_N f (70 + t) = 256 := by
  have : t = 0 ∨ t = 1 ∨ t = 2 ∨ t = 3 ∨ t = 4 ∨ t = 5 ∨ t = 6 := by omega
  rcases this with rfl | rfl | rfl | rfl | rfl | rfl | rfl <;> rfl
theorem zb_rg70 {t k : Nat} (h : t < 7) : zb_rg (70 + t) k = 70 := by
  have : t = 0 ∨ t = 1 ∨ t = 2 ∨ t = 3 ∨ t = 4 ∨ t = 5 ∨ t = 6 := by omega
  rcases this with rfl | rfl | rfl | rfl | rfl | rfl | rfl <;> rfl
section XR
variable {N : Nat} {A B : Nat → Nat} {M : Nat → Int} {O : Nat → Nat} {s : sv_S}
theorem zb_RM_RL (h : zb_RM N A B M O s) : zb_RL N A B M O := ⟨h.1, zb_RM_ln h, fun l hl => (h.2.2 l hl).2.2.2.2.1⟩
theorem zb_RX_fr {L : List Nat} {t : sv_S} (h : zb_RX N A B M O s) (hf : zb_fr L s t) (hL : [65004, 66, 67, 68, 70].all (fun x => !L.contains x) = true) : zb_RX N A B M O t := by
  have k : ∀ x, x ∈ [65004, 66, 67, 68, 70] → L.contains x = false := fun x hx => by have := List.all_eq_true.mp hL x hx; simpa using this
  refine ⟨(hf.1 65 4 (k 65004 (by decide))).trans h.1, fun l hl => ?_, fun a b ha hb => ?_, fun o ho => ?_⟩
  · rw [hf.1 66 l (k 66 (by decide)), hf.1 67 l (k 67 (by decide))]; exact h.2.1 l hl
  · rw [hf.1 68 _ (k 68 (by decide))]; exact h.2.2.1 a b ha hb
  · obtain ⟨D, h1, h2⟩ := h.2.2.2 o ho
    exact ⟨D, zb_gd_fr h1 hf (fun j => by rw [zb_rg70 ho]; exact k 70 (by decide)), h2⟩
theorem zb_gr_iff {P P' : Nat → Prop} {F : Int} {d : Nat → Nat → Int} (e : ∀ l, l < N → (P l ↔ P' l)) (h : zb_gr N A B M P F d) : zb_gr N A B M P' F d := by
  have k : ∀ c, zb_sub N A B M P F c ↔ zb_sub N A B M P' F c := fun c => ⟨fun q => ⟨q.1, q.2.1, fun l hl pl => q.2.2.1 l hl ((e l hl).2 pl), q.2.2.2⟩, fun q => ⟨q.1, q.2.1, fun l hl pl => q.2.2.1 l hl ((e l hl).1 pl), q.2.2.2⟩⟩
  exact ⟨(k d).1 h.1, fun c hc => h.2 c ((k c).2 hc)⟩
/-- what between answers -/
def zb_bt (N : Nat) (A B : Nat → Nat) (M : Nat → Int) (O : Nat → Nat) (o : Int) (a b : Nat) : Int := if zb_D N A B M O o a b < 100000 then zb_D N A B M O o a b else -1
theorem zb_D_rg (hL : zb_RL N A B M O) (o : Int) {a b : Nat} (ha : a < 16) (hb : b < 16) : 0 ≤ zb_D N A B M O o a b ∧ zb_D N A B M O o a b ≤ 100000 ∧ (zb_D N A B M O o a b < 100000 → zb_D N A B M O o a b ≤ 3000) := by
  have g := zb_D_gr (O := O) hL.2.1 o
  have := g.1.2.1 a b ha hb
  exact ⟨this.1, this.2, fun q => zb_gr_3000 hL.2.1 g ha hb q⟩
theorem zb_bt_rg (hL : zb_RL N A B M O) (o : Int) {a b : Nat} (ha : a < 16) (hb : b < 16) : -1 ≤ zb_bt N A B M O o a b ∧ zb_bt N A B M O o a b ≤ 3000 := by
  obtain ⟨q1, q2, q3⟩ := zb_D_rg hL o ha hb
  unfold zb_bt; split <;> omega
theorem zb_D_X (hL : zb_RL N A B M O) {o : Int} {t : Nat} {D : Nat → Nat → Int} (ht : (t = 6 ∧ o = -1) ∨ (t < 6 ∧ o = t)) (h : zb_gr N A B M (fun l => t = 6 ∨ O l = t) 1000000 D) {a b : Nat} (ha : a < 16) (hb : b < 16) : zb_bt N A B M O o a b = if D a b < 1000000 then D a b else -1 := by
  have g := zb_D_gr (O := O) hL.2.1 o
  have g' : zb_gr N A B M (fun l => zb_ow O o l = true) 1000000 D := zb_gr_iff (fun l hl => by
    unfold zb_ow; rw [decide_eq_true_eq]
    rcases ht with ⟨rfl, rfl⟩ | ⟨h6, rfl⟩
    · simp
    · constructor
      · rintro (q | q)
        · omega
        · right; omega
      · rintro (q | q)
        · omega
        · right; omega) h
  have c := zb_gr_cap (F := 100000) (G := 1000000) (by omega) (by omega) hL.2.1 g g' ha hb
  have b1 := g'.1.2.1 a b ha hb
  unfold zb_bt
  by_cases q : D a b < 1000000
  · have := zb_gr_3000 hL.2.1 g' ha hb q
    rw [if_pos q, if_pos (by omega), c]; omega
  · rw [if_neg q, if_neg (by omega)]
theorem zb_between (hL : zb_RL N A B M O) (hX : zb_RX N A B M O s) {o : Int} (ho : -1 ≤ o) (ho2 : o < 6) {a b : Nat} (ha : a < 16) (hb : b < 16) : F_Ro_between (zb_i o) (zb_n a) (zb_n b) s = some (zb_i (zb_bt N A B M O o a b)) := by
  have go : ∀ t : Nat, (t = 6 ∧ o = -1) ∨ (t < 6 ∧ o = t) → F_Ro_between_b15 s (zb_n a) (zb_n b) (zb_n t) = some (zb_i (zb_bt N A B M O o a b)) := by
    intro t ht
    have ht7 : t < 7 := by omega
    obtain ⟨D, h1, h2⟩ := hX.2.2.2 t ht7
    have e := h1 a b ha hb
    rw [Nat.mul_comm] at e
    have b1 := h2.1.2.1 a b ha hb
    unfold F_Ro_between_b15
    rw [zb_m1]
    rw [if_pos (by simp (disch := omega) only [zb_lit, zb_n_add, zb_n_mul, zb_n_ix, zb_n_lt, zb_n_le, zb_n_eq, zb_ib_n]; omega)]
    simp (disch := omega) only [zb_lit, zb_n_add, zb_n_mul, zb_n_ix, zb_n_lt, zb_n_le, zb_n_eq, zb_ib_n, zb_N70, e]
    rw [if_pos (by omega), zb_D_X hL ht h2 ha hb]
    simp only [ss_let]
    have z : (zb_i (D a b) < zb_n 1000000) = (D a b < 1000000) := by rw [zb_n_i]; exact zb_i_lt (by omega) (by omega) (by omega) (by omega)
    simp only [z]
    by_cases q : D a b < 1000000
    · rw [if_pos q, if_pos q]
    · rw [if_neg q, if_neg q]
  unfold F_Ro_between
  rw [zb_m1]
  by_cases q : o = -1
  · subst q
    rw [if_pos rfl]
    exact go 6 (by omega)
  · rw [if_neg (by rw [zb_i_eq (by omega) (by omega) (by omega) (by omega)]; exact q)]
    have e : zb_i o = zb_n o.toNat := by rw [zb_n_i, Int.toNat_of_nonneg (by omega)]
    rw [e]
    exact go o.toNat (by omega)
theorem zb_next (hL : zb_RL N A B M O) (hX : zb_RX N A B M O s) {x b : Nat} (hx : x < 16) (hb : b < 16) (hxb : x ≠ b) : zb_W (F_Ro_nextOnWay (zb_n x) (zb_n b) s) (fun r => r = if zb_D N A B M O (-1) x b < 100000 then zb_n (zb_nx (zb_di0 N A B M O (-1)) (zb_D N A B M O (-1)) b x) else -1) := by
  have hN := hL.1
  unfold F_Ro_nextOnWay
  rw [zb_m1, zb_between hL hX (by omega) (by omega) hx hb]
  refine zb_Wbind (zb_Wsome ?_)
  -- a station that goes on
  have st : ∀ y, y < 16 → zb_W (F_Ro_between (zb_i (-1)) (zb_n y) (zb_n b) s) (fun r => r = zb_i (zb_bt N A B M O (-1) y b)) := fun y hy => zb_Weq (zb_between hL hX (by omega) (by omega) hy hb) rfl
  have step : ∀ n y, y < 16 → (zb_D N A B M O (-1) x b < 100000 → zb_st (zb_di0 N A B M O (-1)) (zb_D N A B M O (-1)) b x y = false) → zb_W (F_Ro_nextOnWay_b11 s n (zb_n x) (zb_n b) (zb_i (zb_bt N A B M O (-1) x b)) (zb_n (y + 1))) (fun r => r = if zb_D N A B M O (-1) x b < 100000 then zb_n (zb_nx (zb_di0 N A B M O (-1)) (zb_D N A B M O (-1)) b x) else zb_i (-1)) → zb_W (F_Ro_nextOnWay_b11 s (n + 1) (zb_n x) (zb_n b) (zb_i (zb_bt N A B M O (-1) x b)) (zb_n y)) (fun r => r = if zb_D N A B M O (-1) x b < 100000 then zb_n (zb_nx (zb_di0 N A B M O (-1)) (zb_D N A B M O (-1)) b x) else zb_i (-1)) := by
    intro n y hy hst ih
    have skip : zb_W (F_Ro_nextOnWay_b69 s (F_Ro_nextOnWay_b11 s n) (zb_n x) (zb_n b) (zb_i (zb_bt N A B M O (-1) x b)) (zb_n y)) (fun r => r = if zb_D N A B M O (-1) x b < 100000 then zb_n (zb_nx (zb_di0 N A B M O (-1)) (zb_D N A B M O (-1)) b x) else zb_i (-1)) := by
      unfold F_Ro_nextOnWay_b69
      refine zb_Wlet ?_
      simp (disch := omega) only [zb_lit, zb_n_add, zb_n_mul, zb_n_ix, zb_n_lt, zb_n_le, zb_n_eq, zb_ib_n]
      exact ih
    simp only [F_Ro_nextOnWay_b11]
    rw [zb_m1]
    refine zb_Wneg (by first | omega | (simp (disch := omega) only [zb_lit, zb_n_add, zb_n_mul, zb_n_ix, zb_n_lt, zb_n_le, zb_n_eq, zb_ib_n] <;> omega)) ?_
    refine zb_Wpos (by first | omega | (simp (disch := omega) only [zb_lit, zb_n_add, zb_n_mul, zb_n_ix, zb_n_lt, zb_n_le, zb_n_eq, zb_ib_n] <;> omega)) ?_
    refine zb_Wlet ?_
    refine zb_Wbind2 (st y hy) (fun r hr => ?_)
    subst hr
    have e := hX.2.2.1 x y hx hy
    rw [Nat.mul_comm] at e
    simp (disch := omega) only [zb_lit, zb_n_add, zb_n_mul, zb_n_ix, zb_n_lt, zb_n_le, zb_n_eq, zb_ib_n, e]
    have g := zb_bs_rg hL.2.1 x y (k := N) (by omega)
    have bt := zb_bt_rg hL (-1) (a := y) (b := b) hy hb
    have bt2 := zb_bt_rg hL (-1) (a := x) (b := b) hx hb
    refine zb_Wif (fun _ => skip) (fun q => ?_)
    rw [zb_n_i, zb_i_lt (by omega) (by omega) (by omega) (by omega)] at q
    refine zb_Wif (fun _ => skip) (fun q2 => ?_)
    rw [zb_n_i, zb_i_lt (by omega) (by omega) (by omega) (by omega)] at q2
    have e1 : zb_i (zb_bs A B M N x y) = zb_n (zb_bs A B M N x y).toNat := by rw [zb_n_i, Int.toNat_of_nonneg (by omega)]
    have e2 := (hX.2.1 (zb_bs A B M N x y).toNat (by omega)).2
    have hM := hL.2.1 (zb_bs A B M N x y).toNat (by omega)
    rw [e1]
    refine zb_Wpos (by first | omega | (simp (disch := omega) only [zb_lit, zb_n_add, zb_n_mul, zb_n_ix, zb_n_lt, zb_n_le, zb_n_eq, zb_ib_n] <;> omega)) ?_
    refine zb_Wneg ?_ skip
    simp (disch := omega) only [zb_lit, zb_n_add, zb_n_mul, zb_n_ix, zb_n_lt, zb_n_le, zb_n_eq, zb_ib_n, e2, zb_i_add, zb_i_eq]
    intro w
    have hlt : zb_D N A B M O (-1) x b < 100000 := by
      by_cases v : zb_D N A B M O (-1) x b < 100000
      · exact v
      · have : zb_bt N A B M O (-1) x b = -1 := by unfold zb_bt; rw [if_neg v]
        omega
    have nst := hst hlt
    have hxy : x ≠ y := by
      intro v; subst v; rw [zb_bs_self hL.2.1 x N (Nat.le_refl _)] at q; omega
    have d1 := (zb_bs_ok (F := 100000) (by omega) N hL.2.1 x y hxy).2.1
    rw [if_neg (by omega)] at d1
    have d2 : zb_di0 N A B M O (-1) x y = M (zb_bs A B M N x y).toNat := by unfold zb_di0; rw [zb_ow_any]; exact d1
    have d3 : zb_bt N A B M O (-1) x b = zb_D N A B M O (-1) x b := by unfold zb_bt; rw [if_pos hlt]
    have d4 : zb_bt N A B M O (-1) y b = zb_D N A B M O (-1) y b := by
      unfold zb_bt
      by_cases v : zb_D N A B M O (-1) y b < 100000
      · rw [if_pos v]
      · exfalso; apply q2; unfold zb_bt; rw [if_neg v]; omega
    unfold zb_st at nst
    rw [decide_eq_false_iff_not] at nst
    exact nst ⟨Ne.symm hxy, by omega, by omega⟩
  by_cases hlt : zb_D N A B M O (-1) x b < 100000
  · obtain ⟨n1, n2, n3, n4⟩ := zb_nx_ok (O := O) hL.2.1 hx hb hxb hlt
    refine zb_for0 (fun n y => F_Ro_nextOnWay_b11 s n (zb_n x) (zb_n b) (zb_i (zb_bt N A B M O (-1) x b)) (zb_n y)) (zb_nx (zb_di0 N A B M O (-1)) (zb_D N A B M O (-1)) b x) (fun _ => True) ?_ (fun n y hy _ ih => step n y (by omega) (fun _ => n4 y hy) (ih trivial)) ss_F 0 (by omega) (by unfold ss_F; omega) trivial
    intro n _
    simp only [F_Ro_nextOnWay_b11]
    rw [if_pos hlt]
    generalize hyy : zb_nx (zb_di0 N A B M O (-1)) (zb_D N A B M O (-1)) b x = y at *
    unfold zb_st at n2
    rw [decide_eq_true_eq] at n2
    rw [zb_m1]
    refine zb_Wneg (by first | omega | (simp (disch := omega) only [zb_lit, zb_n_add, zb_n_mul, zb_n_ix, zb_n_lt, zb_n_le, zb_n_eq, zb_ib_n] <;> omega)) ?_
    refine zb_Wpos (by first | omega | (simp (disch := omega) only [zb_lit, zb_n_add, zb_n_mul, zb_n_ix, zb_n_lt, zb_n_le, zb_n_eq, zb_ib_n] <;> omega)) ?_
    refine zb_Wlet ?_
    refine zb_Wbind2 (st y n1) (fun r hr => ?_)
    subst hr
    have e := hX.2.2.1 x y hx n1
    rw [Nat.mul_comm] at e
    simp (disch := omega) only [zb_lit, zb_n_add, zb_n_mul, zb_n_ix, zb_n_lt, zb_n_le, zb_n_eq, zb_ib_n, e]
    have g := zb_bs_rg hL.2.1 x y (k := N) (by omega)
    have bt := zb_bt_rg hL (-1) (a := y) (b := b) n1 hb
    have bt2 := zb_bt_rg hL (-1) (a := x) (b := b) hx hb
    have d0 := zb_bs_ok (F := 100000) (by omega) N hL.2.1 x y (Ne.symm n2.1)
    have d1 := d0.2.1
    have d2 : zb_di0 N A B M O (-1) x y = zb_di A B M (fun _ => true) 100000 N x y := by unfold zb_di0; rw [zb_ow_any]
    have q : ¬ zb_bs A B M N x y < 0 := by
      intro v; rw [if_pos v] at d1; omega
    rw [if_neg q] at d1
    have dr := zb_D_rg hL (-1) (a := y) (b := b) n1 hb
    have d3 : zb_bt N A B M O (-1) x b = zb_D N A B M O (-1) x b := by unfold zb_bt; rw [if_pos hlt]
    have d4 : zb_bt N A B M O (-1) y b = zb_D N A B M O (-1) y b := by unfold zb_bt; rw [if_pos (by omega)]
    refine zb_Wneg (by rw [zb_n_i, zb_i_lt (by omega) (by omega) (by omega) (by omega)]; exact q) ?_
    refine zb_Wneg (by rw [zb_n_i, zb_i_lt (by omega) (by omega) (by omega) (by omega)]; omega) ?_
    have e1 : zb_i (zb_bs A B M N x y) = zb_n (zb_bs A B M N x y).toNat := by rw [zb_n_i, Int.toNat_of_nonneg (by omega)]
    have e2 := (hX.2.1 (zb_bs A B M N x y).toNat (by omega)).2
    have hM := hL.2.1 (zb_bs A B M N x y).toNat (by omega)
    rw [e1]
    refine zb_Wpos (by first | omega | (simp (disch := omega) only [zb_lit, zb_n_add, zb_n_mul, zb_n_ix, zb_n_lt, zb_n_le, zb_n_eq, zb_ib_n] <;> omega)) ?_
    refine zb_Wpos ?_ (zb_Wsome rfl)
    simp (disch := omega) only [zb_lit, zb_n_add, zb_n_mul, zb_n_ix, zb_n_lt, zb_n_le, zb_n_eq, zb_ib_n, e2, zb_i_add, zb_i_eq]
    omega
  · refine zb_for0 (fun n y => F_Ro_nextOnWay_b11 s n (zb_n x) (zb_n b) (zb_i (zb_bt N A B M O (-1) x b)) (zb_n y)) 16 (fun _ => True) ?_ (fun n y hy _ ih => step n y (by omega) (fun q => absurd q hlt) (ih trivial)) ss_F 0 (by omega) (by unfold ss_F; omega) trivial
    intro n _
    simp only [F_Ro_nextOnWay_b11]
    refine zb_Wpos (by first | omega | (simp (disch := omega) only [zb_lit, zb_n_add, zb_n_mul, zb_n_ix, zb_n_lt, zb_n_le, zb_n_eq, zb_ib_n] <;> omega)) ?_
    rw [if_neg hlt, zb_m1]
    exact zb_Wsome rfl
/-- line i of the way, or -1 -/
def zb_lw0 (N : Nat) (A B : Nat → Nat) (M : Nat → Int) (O : Nat → Nat) (a b i : Nat) : Int := if zb_D N A B M O (-1) a b < 100000 ∧ i < zb_wm (zb_di0 N A B M O (-1)) (zb_D N A B M O (-1)) b a then zb_lw N A B M O a b i else -1
theorem zb_lineOnWay (hL : zb_RL N A B M O) (hX : zb_RX N A B M O s) {a b i : Nat} (ha : a < 16) (hb : b < 16) (hi : i ≤ 2147483647) : zb_W (F_Ro_lineOnWay (zb_n a) (zb_n b) (zb_n i) s) (fun r => r = zb_i (zb_lw0 N A B M O a b i)) := by
  unfold F_Ro_lineOnWay
  by_cases hlt : zb_D N A B M O (-1) a b < 100000
  · obtain ⟨m1, m2, m3⟩ := zb_wm_ok (O := O) hL.2.1 ha hb hlt
    have hwp := zb_wp_ok (O := O) hL.2.1 ha hb hlt
    refine zb_while (fun n (k : Nat) => F_Ro_lineOnWay_b6 s n (zb_n b) (zb_n i) (zb_n (zb_wp (zb_di0 N A B M O (-1)) (zb_D N A B M O (-1)) b a k)) (zb_n k)) (fun k => k ≤ zb_wm (zb_di0 N A B M O (-1)) (zb_D N A B M O (-1)) b a ∧ k ≤ i) (fun k => 16 - k) ?_ ss_F 0 ⟨by omega, by omega⟩ (by unfold ss_F; omega)
    intro n k hI ih
    have w := hwp k
    simp only [F_Ro_lineOnWay_b6]
    rw [zb_m1]
    refine zb_Wneg (by first | omega | (simp (disch := omega) only [zb_lit, zb_n_add, zb_n_mul, zb_n_ix, zb_n_lt, zb_n_le, zb_n_eq, zb_ib_n] <;> omega)) ?_
    refine zb_Wneg (by first | omega | (simp (disch := omega) only [zb_lit, zb_n_add, zb_n_mul, zb_n_ix, zb_n_lt, zb_n_le, zb_n_eq, zb_ib_n] <;> omega)) ?_
    by_cases e : zb_wp (zb_di0 N A B M O (-1)) (zb_D N A B M O (-1)) b a k = b
    · rw [if_pos (by rw [e])]
      refine zb_Wsome ?_
      unfold zb_lw0
      rw [if_neg]
      intro v
      exact m3 k (by omega) e
    · rw [if_neg (by rw [zb_n_eq (by omega) (by omega)]; exact e)]
      have hk : k < zb_wm (zb_di0 N A B M O (-1)) (zb_D N A B M O (-1)) b a := by
        by_cases v : k = zb_wm (zb_di0 N A B M O (-1)) (zb_D N A B M O (-1)) b a
        · rw [v] at e; exact absurd m2 e
        · omega
      have ste : zb_wp (zb_di0 N A B M O (-1)) (zb_D N A B M O (-1)) b a (k + 1) = zb_nx (zb_di0 N A B M O (-1)) (zb_D N A B M O (-1)) b (zb_wp (zb_di0 N A B M O (-1)) (zb_D N A B M O (-1)) b a k) := by simp only [zb_wp]; rw [if_neg e]
      have nx16 := (zb_nx_ok (O := O) hL.2.1 w.1 hb e w.2.1).1
      refine zb_Wbind2 (zb_next hL hX w.1 hb e) (fun r hr => ?_)
      rw [if_pos w.2.1] at hr
      subst hr
      refine zb_Wpos (by first | omega | (simp (disch := omega) only [zb_lit, zb_n_add, zb_n_mul, zb_n_ix, zb_n_lt, zb_n_le, zb_n_eq, zb_ib_n] <;> omega)) ?_
      simp (disch := omega) only [zb_lit, zb_n_add, zb_n_mul, zb_n_ix, zb_n_lt, zb_n_le, zb_n_eq, zb_ib_n]
      refine zb_Wif (fun q => ?_) (fun q => ?_)
      · refine zb_Wpos (by first | omega | (simp (disch := omega) only [zb_lit, zb_n_add, zb_n_mul, zb_n_ix, zb_n_lt, zb_n_le, zb_n_eq, zb_ib_n] <;> omega)) ?_
        refine zb_Wsome ?_
        have e2 := hX.2.2.1 _ _ w.1 nx16
        rw [Nat.mul_comm] at e2
        rw [e2]
        unfold zb_lw0 zb_lw
        subst q
        rw [if_pos ⟨hlt, hk⟩, ste]
      · refine zb_Wlet ?_
        have := ih (k + 1) ⟨by omega, by omega⟩ (by omega)
        rw [ste] at this
        exact this
  · have hab : a ≠ b := by
      intro e; subst e
      exact hlt (by rw [(zb_D_gr (O := O) hL.2.1 (-1)).1.1 a ha]; omega)
    rw [show ss_F = 8191 + 1 from rfl, F_Ro_lineOnWay_b6, zb_m1]
    refine zb_Wneg (by first | omega | (simp (disch := omega) only [zb_lit, zb_n_add, zb_n_mul, zb_n_ix, zb_n_lt, zb_n_le, zb_n_eq, zb_ib_n] <;> omega)) ?_
    refine zb_Wneg (by first | omega | (simp (disch := omega) only [zb_lit, zb_n_add, zb_n_mul, zb_n_ix, zb_n_lt, zb_n_le, zb_n_eq, zb_ib_n] <;> omega)) ?_
    refine zb_Wneg (by first | omega | (simp (disch := omega) only [zb_lit, zb_n_add, zb_n_mul, zb_n_ix, zb_n_lt, zb_n_le, zb_n_eq, zb_ib_n] <;> omega)) ?_
    refine zb_Wbind2 (zb_next hL hX ha hb hab) (fun r hr => ?_)
    rw [if_neg hlt, zb_m1] at hr
    subst hr
    refine zb_Wneg (by rw [show (0 : Int32) = zb_i 0 from zb_n_i 0, zb_i_le (by omega) (by omega) (by omega) (by omega)]; omega) (zb_Wsome ?_)
    unfold zb_lw0
    rw [if_neg (fun v => hlt v.1)]
/-- a new line shortens -/
def zb_ps (d e : Nat → Nat → Int) (x y : Nat) (a b : Nat) : Prop := if x < a ∨ (x = a ∧ y < b) then d x y = e x y else e x y ≤ d x y
theorem zb_shorten {t : Nat} {D : Nat → Nat → Int} {x y : Nat} {m : Int} (ht : t < 7) (h : zb_gd s (70 + t) D) (hx : x < 16) (hy : y < 16) (hm : 1 ≤ m) (hm2 : m ≤ 200) (h0 : ∀ a, a < 16 → D a a = 0) (h1 : ∀ a b, a < 16 → b < 16 → 0 ≤ D a b ∧ D a b ≤ 1000000) (h3 : ∀ a b c, a < 16 → b < 16 → c < 16 → D a c ≤ D a b + D b c) :
    zb_W (F_Ro_shorten (70 + t) (zb_n x) (zb_n y) (zb_i m) s) (fun u => u.2 = s.2 ∧ (∀ c k, c ≠ 70 + t → u.1 c k = s.1 c k) ∧ zb_gd u (70 + t) (zb_ad D x y m)) := by
  obtain ⟨k1, k2, k3, k4⟩ := zb_ad_sub (F := 1000000) hx hy hm h0 h1 h3
  unfold F_Ro_shorten
  -- state: some grid between the new and the old, new where passed
  have inner : ∀ (kc3 : Nat → Int32 → Int32 → Int32 → Int32 → sv_S → Option sv_S) (a : Nat), a < 16 → (∀ u, (u.2 = s.2 ∧ (∀ c k, c ≠ 70 + t → u.1 c k = s.1 c k) ∧ ∃ d, zb_gd u (70 + t) d ∧ ∀ p q, p < 16 → q < 16 → (zb_ad D x y m p q ≤ d p q ∧ d p q ≤ D p q) ∧ (p < a + 1 → d p q = zb_ad D x y m p q)) → zb_W (kc3 (70 + t) (zb_n x) (zb_n y) (zb_i m) (zb_n (a + 1)) u) (fun u => u.2 = s.2 ∧ (∀ c k, c ≠ 70 + t → u.1 c k = s.1 c k) ∧ zb_gd u (70 + t) (zb_ad D x y m))) →
      ∀ (n b : Nat) (u : sv_S), b ≤ 16 → 16 < n + b → (u.2 = s.2 ∧ (∀ c k, c ≠ 70 + t → u.1 c k = s.1 c k) ∧ ∃ d, zb_gd u (70 + t) d ∧ ∀ p q, p < 16 → q < 16 → (zb_ad D x y m p q ≤ d p q ∧ d p q ≤ D p q) ∧ ((p < a ∨ (p = a ∧ q < b)) → d p q = zb_ad D x y m p q)) → zb_W (F_Ro_shorten_b13 kc3 n (70 + t) (zb_n x) (zb_n y) (zb_i m) (zb_n a) (zb_n b) u) (fun u => u.2 = s.2 ∧ (∀ c k, c ≠ 70 + t → u.1 c k = s.1 c k) ∧ zb_gd u (70 + t) (zb_ad D x y m)) := by
    intro kc3 a ha kk
    refine zb_for (fun n b u => F_Ro_shorten_b13 kc3 n (70 + t) (zb_n x) (zb_n y) (zb_i m) (zb_n a) (zb_n b) u) 16 _ ?_ ?_
    · intro n u hI
      simp only [F_Ro_shorten_b13]
      refine zb_Wpos (by first | omega | (simp (disch := omega) only [zb_lit, zb_n_add, zb_n_mul, zb_n_ix, zb_n_lt, zb_n_le, zb_n_eq, zb_ib_n] <;> omega)) ?_
      refine zb_Wlet ?_
      simp (disch := omega) only [zb_lit, zb_n_add, zb_n_mul, zb_n_ix, zb_n_lt, zb_n_le, zb_n_eq, zb_ib_n]
      obtain ⟨j1, j2, d, j3, j4⟩ := hI
      exact kk u ⟨j1, j2, d, j3, fun p q hp hq => ⟨(j4 p q hp hq).1, fun v => (j4 p q hp hq).2 (by omega)⟩⟩
    · intro n b u hb hI ih
      obtain ⟨j1, j2, d, j3, j4⟩ := hI
      have f : ∀ p q, p < 16 → q < 16 → u.1 (70 + t) (p * 16 + q) = zb_i (d p q) := fun p q hp hq => by rw [Nat.mul_comm]; exact j3 p q hp hq
      have e1 := f a x ha hx
      have e2 := f y b hy hb
      have e3 := f a y ha hy
      have e4 := f x b hx hb
      have e5 := f a b ha hb
      have g1 := (j4 a x ha hx).1
      have g2 := (j4 y b hy hb).1
      have g3 := (j4 a y ha hy).1
      have g4 := (j4 x b hx hb).1
      have g5 := (j4 a b ha hb).1
      have r1 := h1 a x ha hx
      have r2 := h1 y b hy hb
      have r3 := h1 a y ha hy
      have r4 := h1 x b hx hb
      have r5 := h1 a b ha hb
      have n1 := k2 a x ha hx
      have n2 := k2 y b hy hb
      have n3 := k2 a y ha hy
      have n4 := k2 x b hx hb
      have n5 := k2 a b ha hb
      have t1 := k4 a x b ha hx hb
      have t2 := k4 x y b hx hy hb
      have t3 := k4 a y b ha hy hb
      have t4 := k4 y x b hy hx hb
      have low : zb_ad D x y m a b ≤ min (d a x + d y b) (d a y + d x b) + m := by omega
      have up : min (d a b) (min (d a x + d y b) (d a y + d x b) + m) ≤ zb_ad D x y m a b := by unfold zb_ad; omega
      have hN : ss_N u.2.2.2.1 (70 + t) = 256 := zb_N70 ht
      have skip : d a b ≤ min (d a x + d y b) (d a y + d x b) + m → zb_W (F_Ro_shorten_b100 kc3 (F_Ro_shorten_b13 kc3 n) (70 + t) (zb_n x) (zb_n y) (zb_i m) (zb_n a) (zb_n b) u) (fun u => u.2 = s.2 ∧ (∀ c k, c ≠ 70 + t → u.1 c k = s.1 c k) ∧ zb_gd u (70 + t) (zb_ad D x y m)) := by
        intro v
        unfold F_Ro_shorten_b100
        refine zb_Wlet ?_
        simp (disch := omega) only [zb_lit, zb_n_add, zb_n_mul, zb_n_ix, zb_n_lt, zb_n_le, zb_n_eq, zb_ib_n]
        refine ih u ⟨j1, j2, d, j3, fun p q hp hq => ⟨(j4 p q hp hq).1, fun w => ?_⟩⟩
        by_cases z : p = a ∧ q = b
        · rw [z.1, z.2]; omega
        · exact (j4 p q hp hq).2 (by omega)
      have mn : F_JM_min (zb_i (d a x + d y b)) (zb_i (d a y + d x b)) u = some (zb_i (min (d a x + d y b) (d a y + d x b))) := by
        unfold F_JM_min
        have z := zb_i_le (a := d a x + d y b) (b := d a y + d x b) (by omega) (by omega) (by omega) (by omega)
        have z' := zb_i_lt (b := d a x + d y b) (a := d a y + d x b) (by omega) (by omega) (by omega) (by omega)
        simp only [z, z', ss_let]
        split
        · congr 2; omega
        · congr 2; omega
      simp only [F_Ro_shorten_b13]
      rw [hN]
      refine zb_Wneg (by first | omega | (simp (disch := omega) only [zb_lit, zb_n_add, zb_n_mul, zb_n_ix, zb_n_lt, zb_n_le, zb_n_eq, zb_ib_n] <;> omega)) ?_
      refine zb_Wpos (by first | omega | (simp (disch := omega) only [zb_lit, zb_n_add, zb_n_mul, zb_n_ix, zb_n_lt, zb_n_le, zb_n_eq, zb_ib_n] <;> omega)) ?_
      refine zb_Wpos (by first | omega | (simp (disch := omega) only [zb_lit, zb_n_add, zb_n_mul, zb_n_ix, zb_n_lt, zb_n_le, zb_n_eq, zb_ib_n] <;> omega)) ?_
      refine zb_Wlet ?_
      refine zb_Wpos (by first | omega | (simp (disch := omega) only [zb_lit, zb_n_add, zb_n_mul, zb_n_ix, zb_n_lt, zb_n_le, zb_n_eq, zb_ib_n] <;> omega)) ?_
      refine zb_Wpos (by first | omega | (simp (disch := omega) only [zb_lit, zb_n_add, zb_n_mul, zb_n_ix, zb_n_lt, zb_n_le, zb_n_eq, zb_ib_n] <;> omega)) ?_
      refine zb_Wlet ?_
      simp (disch := omega) only [zb_lit, zb_n_add, zb_n_mul, zb_n_ix, zb_n_lt, zb_n_le, zb_n_eq, zb_ib_n, e1, e2, e3, e4, zb_i_add]
      rw [mn]
      refine zb_Wbind (zb_Wsome ?_)
      refine zb_Wlet ?_
      refine zb_Wpos (by omega) ?_
      rw [e5]
      simp (disch := omega) only [zb_lit, zb_n_add, zb_n_mul, zb_n_ix, zb_n_lt, zb_n_le, zb_n_eq, zb_ib_n, zb_i_add, zb_i_le]
      refine zb_Wif (fun q => skip q) (fun q => ?_)
      refine zb_Wpos (by omega) ?_
      refine zb_Wlet ?_
      unfold F_Ro_shorten_b100
      refine zb_Wlet ?_
      simp (disch := omega) only [zb_lit, zb_n_add, zb_n_mul, zb_n_ix, zb_n_lt, zb_n_le, zb_n_eq, zb_ib_n]
      refine ih _ ⟨j1, fun c k hc => (zb_set_ne (fun w => hc w.1)).trans (j2 c k hc), fun p q' => if p = a ∧ q' = b then min (d a x + d y b) (d a y + d x b) + m else d p q', ?_, fun p q' hp hq => ?_⟩
      · rw [Nat.mul_comm a 16]
        exact zb_gd_set j3 ha hb (by simp) (fun p q' _ _ w => by rw [if_neg w])
      · dsimp only
        by_cases w : p = a ∧ q' = b
        · rw [if_pos w, w.1, w.2]; refine ⟨⟨low, by omega⟩, fun _ => by omega⟩
        · rw [if_neg w]; exact ⟨(j4 p q' hp hq).1, fun v => (j4 p q' hp hq).2 (by omega)⟩
  refine zb_for (fun n a u => F_Ro_shorten_b3 n (70 + t) (zb_n x) (zb_n y) (zb_i m) (zb_n a) u) 16 (fun a u => u.2 = s.2 ∧ (∀ c k, c ≠ 70 + t → u.1 c k = s.1 c k) ∧ ∃ d, zb_gd u (70 + t) d ∧ ∀ p q, p < 16 → q < 16 → (zb_ad D x y m p q ≤ d p q ∧ d p q ≤ D p q) ∧ (p < a → d p q = zb_ad D x y m p q)) ?_ ?_ ss_F 0 s (by omega) (by unfold ss_F; omega) ⟨rfl, fun _ _ _ => rfl, D, h, fun p q hp hq => ⟨⟨by unfold zb_ad; omega, Int.le_refl _⟩, fun v => absurd v (by omega)⟩⟩
  · intro n u hI
    simp only [F_Ro_shorten_b3]
    refine zb_Wpos (by first | omega | (simp (disch := omega) only [zb_lit, zb_n_add, zb_n_mul, zb_n_ix, zb_n_lt, zb_n_le, zb_n_eq, zb_ib_n] <;> omega)) ?_
    obtain ⟨j1, j2, d, j3, j4⟩ := hI
    exact zb_Wsome ⟨j1, j2, zb_gd_congr j3 (fun p q hp hq => (j4 p q hp hq).2 hp)⟩
  · intro n a u ha hI ih
    simp only [F_Ro_shorten_b3]
    refine zb_Wneg (by first | omega | (simp (disch := omega) only [zb_lit, zb_n_add, zb_n_mul, zb_n_ix, zb_n_lt, zb_n_le, zb_n_eq, zb_ib_n] <;> omega)) ?_
    refine inner _ a ha (fun u' h' => ih u' h') ss_F 0 u (by omega) (by unfold ss_F; omega) ?_
    obtain ⟨j1, j2, d, j3, j4⟩ := hI
    exact ⟨j1, j2, d, j3, fun p q hp hq => ⟨(j4 p q hp hq).1, fun v => (j4 p q hp hq).2 (by omega)⟩⟩
theorem zb_bs_congr {A' B' : Nat → Nat} {M' : Nat → Int} (h : zb_ln N A B M) (e : ∀ l, l < N → A l = A' l ∧ B l = B' l ∧ M l = M' l) (a b : Nat) : ∀ k, k ≤ N → zb_bs A B M k a b = zb_bs A' B' M' k a b := by
  intro k
  induction k with
  | zero => intro _; rfl
  | succ k ih =>
    intro hk
    have i := ih (by omega)
    have g := zb_bs_rg h a b (k := k) (by omega)
    rw [zb_bs_s, zb_bs_s, ← i, (e k (by omega)).1, (e k (by omega)).2.1, (e k (by omega)).2.2]
    by_cases q : zb_bs A B M k a b < 0
    · simp only [q, true_or]
    · rw [(e (zb_bs A B M k a b).toNat (by omega)).2.2]
theorem zb_gr_congr {A' B' : Nat → Nat} {M' : Nat → Int} {P P' : Nat → Prop} {F : Int} {d : Nat → Nat → Int} (e : ∀ l, l < N → A l = A' l ∧ B l = B' l ∧ M l = M' l ∧ (P l ↔ P' l)) (h : zb_gr N A B M P F d) : zb_gr N A' B' M' P' F d := by
  have k : ∀ c, zb_sub N A B M P F c ↔ zb_sub N A' B' M' P' F c := fun c =>
    ⟨fun q => ⟨q.1, q.2.1, fun l hl pl => by rw [← (e l hl).1, ← (e l hl).2.1, ← (e l hl).2.2.1]; exact q.2.2.1 l hl ((e l hl).2.2.2.2 pl), q.2.2.2⟩, fun q => ⟨q.1, q.2.1, fun l hl pl => by rw [(e l hl).1, (e l hl).2.1, (e l hl).2.2.1]; exact q.2.2.1 l hl ((e l hl).2.2.2.1 pl), q.2.2.2⟩⟩
  exact ⟨(k d).1 h.1, fun c hc => h.2 c ((k c).2 hc)⟩
theorem zb_RX_congr {A' B' O' : Nat → Nat} {M' : Nat → Int} (h : zb_ln N A B M) (e : ∀ l, l < N → A l = A' l ∧ B l = B' l ∧ M l = M' l ∧ O l = O' l) (hX : zb_RX N A B M O s) : zb_RX N A' B' M' O' s := by
  refine ⟨hX.1, fun l hl => ?_, fun a b ha hb => ?_, fun o ho => ?_⟩
  · rw [← (e l hl).2.2.1, ← (e l hl).2.2.2]; exact hX.2.1 l hl
  · rw [← zb_bs_congr h (fun l hl => ⟨(e l hl).1, (e l hl).2.1, (e l hl).2.2.1⟩) a b N (Nat.le_refl _)]; exact hX.2.2.1 a b ha hb
  · obtain ⟨D, h1, h2⟩ := hX.2.2.2 o ho
    exact ⟨D, h1, zb_gr_congr (fun l hl => ⟨(e l hl).1, (e l hl).2.1, (e l hl).2.2.1, by rw [(e l hl).2.2.2]⟩) h2⟩
/-- the class's new line -/
theorem zb_Ro_add (hL : zb_RL (N + 1) A B M O) (hX : zb_RX N A B M O s) : zb_W (F_Ro_add (zb_n (O N)) (zb_n (A N)) (zb_n (B N)) (zb_i (M N)) s) (fun r => r.1 = zb_n N ∧ zb_fr [65004, 66, 67, 68, 70] s r.2 ∧ zb_RX (N + 1) A B M O r.2) := by
  have hN := hL.1
  have hl := hL.2.1 N (by omega)
  have hO := hL.2.2 N (by omega)
  have hln : zb_ln N A B M := zb_ln_le hL.2.1 (by omega)
  -- the second half
  have b81 : ∀ u : sv_S, zb_fr [65004, 66, 67, 68, 70] s u → u.1 65 4 = zb_n N → (∀ l, l < N + 1 → u.1 66 l = zb_n (O l) ∧ u.1 67 l = zb_i (M l)) → (∀ a b, a < 16 → b < 16 → u.1 68 (16 * a + b) = zb_i (zb_bs A B M (N + 1) a b)) → (∀ t k, t < 7 → u.1 (70 + t) k = s.1 (70 + t) k) → zb_W (F_Ro_add_b81 (zb_n (O N)) (zb_n (A N)) (zb_n (B N)) (zb_i (M N)) u) (fun r => r.1 = zb_n N ∧ zb_fr [65004, 66, 67, 68, 70] s r.2 ∧ zb_RX (N + 1) A B M O r.2) := by
    intro u f u1 u2 u3 u4
    unfold F_Ro_add_b81
    refine zb_Wpos (by first | omega | (simp (disch := omega) only [zb_lit, zb_n_add, zb_n_mul, zb_n_ix, zb_n_lt, zb_n_le, zb_n_eq, zb_ib_n] <;> omega)) ?_
    obtain ⟨D, d1, d2⟩ := hX.2.2.2 (O N) (by omega)
    obtain ⟨D6, d61, d62⟩ := hX.2.2.2 6 (by omega)
    have d1' : zb_gd u (70 + O N) D := fun a b ha hb => (u4 _ _ (by omega)).trans (d1 a b ha hb)
    simp (disch := omega) only [zb_lit, zb_n_add, zb_n_mul, zb_n_ix, zb_n_lt, zb_n_le, zb_n_eq, zb_ib_n]
    refine zb_Wbind2 (zb_shorten (by omega) d1' hl.1 hl.2.1 hl.2.2.2.1 hl.2.2.2.2 d2.1.1 d2.1.2.1 d2.1.2.2.2) (fun v hv => ?_)
    obtain ⟨v1, v2, v3⟩ := hv
    have d6' : zb_gd v (70 + 6) D6 := fun a b ha hb => (v2 _ _ (by omega)).trans ((u4 6 _ (by omega)).trans (d61 a b ha hb))
    refine zb_Wpos (by decide) ?_
    refine zb_Wbind2 (zb_shorten (t := 6) (by omega) d6' hl.1 hl.2.1 hl.2.2.2.1 hl.2.2.2.2 d62.1.1 d62.1.2.1 d62.1.2.2.2) (fun w hw => ?_)
    obtain ⟨w1, w2, w3⟩ := hw
    refine zb_Wlet (zb_Wsome ?_)
    have keep : ∀ c k, c ≠ 70 + O N → c ≠ 70 + 6 → w.1 c k = u.1 c k := fun c k h1 h2 => (w2 c k h2).trans (v2 c k h1)
    have w65 : w.1 65 4 = zb_n N := (keep 65 4 (by omega) (by omega)).trans u1
    refine ⟨w65, ?_, ?_⟩
    · refine zb_fr_set (L := [65004, 66, 67, 68, 70]) ⟨fun c k h => ?_, (w1.trans v1).trans f.2⟩ rfl
      have : ¬ (70 ≤ c ∧ c ≤ 76) := fun q => by
        have e : c = 70 + (c - 70) := by omega
        rw [e, zb_rg70 (by omega)] at h; cases h
      exact (keep c k (by omega) (by omega)).trans (f.1 c k h)
    · refine ⟨?_, fun l hl' => ?_, fun a b ha hb => ?_, fun o ho => ?_⟩
      · rw [zb_set_eq, w65]; simp (disch := omega) only [zb_lit, zb_n_add, zb_n_mul, zb_n_ix, zb_n_lt, zb_n_le, zb_n_eq, zb_ib_n]
      · rw [zb_set_ne (by omega), zb_set_ne (by omega), keep 66 l (by omega) (by omega), keep 67 l (by omega) (by omega)]; exact u2 l hl'
      · rw [zb_set_ne (by omega), keep 68 _ (by omega) (by omega)]; exact u3 a b ha hb
      · have s1 : ∀ a b, (ss_setI w 65 4 (w.1 65 4 + 1)).1 (70 + o) (16 * a + b) = w.1 (70 + o) (16 * a + b) := fun a b => zb_set_ne (by omega)
        by_cases q6 : o = 6
        · subst q6
          exact ⟨_, fun a b ha hb => (s1 a b).trans (w3 a b ha hb), zb_gr_add (P := fun l => (6 : Nat) = 6 ∨ O l = 6) (Or.inl rfl) hL.2.1 d62⟩
        · by_cases qo : o = O N
          · subst qo
            exact ⟨_, fun a b ha hb => (s1 a b).trans ((w2 _ _ (by omega)).trans (v3 a b ha hb)), zb_gr_add (P := fun l => O N = 6 ∨ O l = O N) (Or.inr rfl) hL.2.1 d2⟩
          · obtain ⟨Dx, x1, x2⟩ := hX.2.2.2 o ho
            exact ⟨Dx, fun a b ha hb => (s1 a b).trans ((keep _ _ (by omega) (by omega)).trans ((u4 o _ ho).trans (x1 a b ha hb))), zb_gr_skip (P := fun l => o = 6 ∨ O l = o) (by omega) x2⟩
  -- the first
  have h65 := hX.1
  unfold F_Ro_add
  rw [h65]
  refine zb_Wpos (by first | omega | (simp (disch := omega) only [zb_lit, zb_n_add, zb_n_mul, zb_n_ix, zb_n_lt, zb_n_le, zb_n_eq, zb_ib_n] <;> omega)) ?_
  refine zb_Wlet ?_
  simp (disch := omega) only [zb_lit, zb_n_add, zb_n_mul, zb_n_ix, zb_n_lt, zb_n_le, zb_n_eq, zb_ib_n]
  have e1 : (ss_setI s 66 N (zb_n (O N))).1 65 4 = zb_n N := (zb_set_ne (by omega)).trans h65
  rw [e1]
  refine zb_Wpos (by first | omega | (simp (disch := omega) only [zb_lit, zb_n_add, zb_n_mul, zb_n_ix, zb_n_lt, zb_n_le, zb_n_eq, zb_ib_n] <;> omega)) ?_
  refine zb_Wlet ?_
  simp (disch := omega) only [zb_lit, zb_n_add, zb_n_mul, zb_n_ix, zb_n_lt, zb_n_le, zb_n_eq, zb_ib_n]
  refine zb_Wpos (by first | omega | (simp (disch := omega) only [zb_lit, zb_n_add, zb_n_mul, zb_n_ix, zb_n_lt, zb_n_le, zb_n_eq, zb_ib_n] <;> omega)) ?_
  refine zb_Wlet ?_
  generalize hu : ss_setI (ss_setI s 66 N (zb_n (O N))) 67 N (zb_i (M N)) = u
  have f : zb_fr [65004, 66, 67, 68, 70] s u := by rw [← hu]; exact zb_fr_set (zb_fr_set (zb_fr_refl _ _) rfl) rfl
  have u1 : u.1 65 4 = zb_n N := by rw [← hu, zb_set_ne (by omega)]; exact e1
  have u2 : ∀ l, l < N + 1 → u.1 66 l = zb_n (O l) ∧ u.1 67 l = zb_i (M l) := by
    intro l hl'
    rw [← hu]
    by_cases q : l = N
    · subst q; rw [zb_set_ne (by omega), zb_set_eq, zb_set_eq]; exact ⟨rfl, rfl⟩
    · rw [zb_set_ne (by omega), zb_set_ne (by omega), zb_set_ne (by omega), zb_set_ne (by omega)]; exact hX.2.1 l (by omega)
  have u3 : ∀ k, u.1 68 k = s.1 68 k := fun k => by rw [← hu, zb_set_ne (by omega), zb_set_ne (by omega)]
  have u4 : ∀ t k, t < 7 → u.1 (70 + t) k = s.1 (70 + t) k := fun t k _ => by rw [← hu, zb_set_ne (by omega), zb_set_ne (by omega)]
  have e2 := hX.2.2.1 (A N) (B N) hl.1 hl.2.1
  rw [Nat.mul_comm] at e2
  simp (disch := omega) only [zb_lit, zb_n_add, zb_n_mul, zb_n_ix, zb_n_lt, zb_n_le, zb_n_eq, zb_ib_n, u3, e2]
  have g := zb_bs_rg hln (A N) (B N) (k := N) (by omega)
  have yes : (zb_bs A B M N (A N) (B N) < 0 ∨ M N < M (zb_bs A B M N (A N) (B N)).toNat) → zb_W (F_Ro_add_b51 (zb_n (O N)) (zb_n (A N)) (zb_n (B N)) (zb_i (M N)) u) (fun r => r.1 = zb_n N ∧ zb_fr [65004, 66, 67, 68, 70] s r.2 ∧ zb_RX (N + 1) A B M O r.2) := by
    intro q
    unfold F_Ro_add_b51
    rw [u1]
    refine zb_Wpos (by first | omega | (simp (disch := omega) only [zb_lit, zb_n_add, zb_n_mul, zb_n_ix, zb_n_lt, zb_n_le, zb_n_eq, zb_ib_n] <;> omega)) ?_
    refine zb_Wlet ?_
    simp (disch := omega) only [zb_lit, zb_n_add, zb_n_mul, zb_n_ix, zb_n_lt, zb_n_le, zb_n_eq, zb_ib_n]
    have e3 : (ss_setI u 68 (A N * 16 + B N) (zb_n N)).1 65 4 = zb_n N := (zb_set_ne (by omega)).trans u1
    rw [e3]
    refine zb_Wpos (by first | omega | (simp (disch := omega) only [zb_lit, zb_n_add, zb_n_mul, zb_n_ix, zb_n_lt, zb_n_le, zb_n_eq, zb_ib_n] <;> omega)) ?_
    refine zb_Wlet ?_
    refine b81 _ (zb_fr_set (zb_fr_set f rfl) rfl) ((zb_set_ne (by omega)).trans e3) (fun l hl' => ?_) (fun a b ha hb => ?_) (fun t k ht => ?_)
    · rw [zb_set_ne (by omega), zb_set_ne (by omega), zb_set_ne (by omega), zb_set_ne (by omega)]; exact u2 l hl'
    · rw [zb_bs_s]
      by_cases q1 : a = B N ∧ b = A N
      · rw [q1.1, q1.2, Nat.mul_comm 16, zb_set_eq, if_pos ⟨Or.inr ⟨rfl, rfl⟩, by rw [zb_bs_comm]; exact q⟩, zb_n_i]
      · rw [zb_set_ne (by omega)]
        by_cases q2 : a = A N ∧ b = B N
        · rw [q2.1, q2.2, Nat.mul_comm 16, zb_set_eq, if_pos ⟨Or.inl ⟨rfl, rfl⟩, q⟩, zb_n_i]
        · rw [zb_set_ne (by omega), u3, hX.2.2.1 a b ha hb, if_neg]
          intro v
          rcases v.1 with w | w
          · exact q2 ⟨w.1.symm, w.2.symm⟩
          · exact q1 ⟨w.2.symm, w.1.symm⟩
    · rw [zb_set_ne (by omega), zb_set_ne (by omega)]; exact u4 t k ht
  refine zb_Wif (fun q => yes (Or.inl ?_)) (fun q => ?_)
  · rw [zb_n_i, zb_i_lt (by omega) (by omega) (by omega) (by omega)] at q; exact q
  · rw [zb_n_i, zb_i_lt (by omega) (by omega) (by omega) (by omega)] at q
    have e4 : zb_i (zb_bs A B M N (A N) (B N)) = zb_n (zb_bs A B M N (A N) (B N)).toNat := by rw [zb_n_i, Int.toNat_of_nonneg (by omega)]
    have e5 := (u2 (zb_bs A B M N (A N) (B N)).toNat (by omega)).2
    have hM := hL.2.1 (zb_bs A B M N (A N) (B N)).toNat (by omega)
    rw [e4]
    refine zb_Wpos (by first | omega | (simp (disch := omega) only [zb_lit, zb_n_add, zb_n_mul, zb_n_ix, zb_n_lt, zb_n_le, zb_n_eq, zb_ib_n] <;> omega)) ?_
    simp (disch := omega) only [zb_lit, zb_n_add, zb_n_mul, zb_n_ix, zb_n_lt, zb_n_le, zb_n_eq, zb_ib_n, e5, zb_i_le]
    refine zb_Wif (fun q2 => ?_) (fun q2 => yes (Or.inr (by omega)))
    refine b81 u f u1 u2 (fun a b ha hb => ?_) u4
    rw [u3, hX.2.2.1 a b ha hb, zb_bs_s, if_neg]
    intro v
    rcases v.1 with w | w
    · rw [← w.1, ← w.2] at v; rcases v.2 with z | z <;> omega
    · rw [← w.1, ← w.2, zb_bs_comm] at v; rcases v.2 with z | z <;> omega
end XR
