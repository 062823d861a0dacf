/-! the model's charges -/
def zb_ZP : List Nat := [187025, 187026, 187029, 187030, 187031, 203, 204, 199, 200, 201, 187019, 187020, 187021, 187023, 187024, 192, 193, 215, 216, 217, 218]
section MF
variable {N K td Q T W Z : Nat} {A B O ZK : Nat → Nat} {M LO LD : Nat → Int} {LE : Nat → List zb_EF} {R TK WK : Nat → Nat → Int} {s : sv_S}
/-- what the model prepares for an owner -/
def zb_PO (K : Nat) (LO LD : Nat → Int) (LE : Nat → List zb_EF) (d : Int) (o : Nat) (s : sv_S) : Prop := s.1 216 o = zb_i (zb_v K LO LD LE o d 1) ∧ s.1 215 o = zb_i (min (zb_v K LO LD LE o d 2) 99) ∧ ∀ g, g < 20 → s.1 217 (20 * o + g) = zb_i (zb_v K LO LD LE o d (20 + g))
def zb_PP (N : Nat) (A B : Nat → Nat) (M : Nat → Int) (O : Nat → Nat) (K : Nat) (LO LD : Nat → Int) (LE : Nat → List zb_EF) (Q : Nat) (R : Nat → Nat → Int) (d : Int) (s : sv_S) : Prop := (∀ o, o < 6 → zb_PO K LO LD LE d o s) ∧ ∀ r, r < Q → R r 1 = 3 → s.1 218 r = zb_i (zb_pt N A B M O (R r) (R r 5))
theorem zb_PP_fr {L : List Nat} {u : sv_S} {d : Int} (h : zb_PP N A B M O K LO LD LE Q R d s) (hf : zb_fr L s u) (hL : [215, 216, 217, 218].all (fun x => !L.contains x) = true) : zb_PP N A B M O K LO LD LE Q R d u := by
  refine ⟨fun o ho => ?_, fun r hr q => (hf.1 218 r (zb_no_in hL (x := 218) (by decide))).trans (h.2 r hr q)⟩
  obtain ⟨h1, h2, h3⟩ := h.1 o ho
  exact ⟨(hf.1 216 o (zb_no_in hL (x := 216) (by decide))).trans h1, (hf.1 215 o (zb_no_in hL (x := 215) (by decide))).trans h2, fun g hg => (hf.1 217 _ (zb_no_in hL (x := 217) (by decide))).trans (h3 g hg)⟩
theorem zb_fldM (h : zb_QM Q R s) {r f c : Nat} (hr : r < Q) (h1 : 1 ≤ f) (h2 : f ≤ 10) (hc : 204 + f = c) : s.1 c r = zb_i (R r f) := by rw [← hc]; exact h.2 r hr f h1 h2
theorem zb_prepare (hW : zb_MW N A B M O K LO LD LE td Q R T TK W WK Z ZK) (h : zb_MM N A B M O K LO LD LE td Q R T TK W WK Z ZK s) {d : Int} (hd : 0 ≤ d) (hd9 : d ≤ 9999) : zb_W (F_Mo_prepare (zb_i d) s) (fun u => zb_fr zb_ZP s u ∧ zb_PP N A B M O K LO LD LE Q R d u) := by
  have hL := zb_RM_RL h.1
  have hQ := hW.2.1
  unfold F_Mo_prepare
  refine zb_for (fun n o u => F_Mo_prepare_b2 n (zb_i d) (zb_n o) u) 6 (fun o u => zb_fr zb_ZP s u ∧ (∀ p, p < o → zb_PO K LO LD LE d p u) ∧ ∀ r, r < Q → R r 1 = 3 → R r 2 < o → u.1 218 r = zb_i (zb_pt N A B M O (R r) (R r 5))) ?_ ?_ ss_F 0 s (by omega) (by unfold ss_F; omega) ⟨zb_fr_refl _ _, fun p hp => absurd hp (by omega), fun r hr _ q => ?_⟩
  · intro n u hI
    simp only [F_Mo_prepare_b2]
    refine zb_Wpos (by first | omega | (simp (disch := omega) only [zb_lit, zb_n_add, zb_n_mul, zb_n_ix, zb_n_lt, zb_n_le, zb_n_eq, zb_ib_n] <;> omega)) ?_
    refine zb_Wsome ⟨hI.1, hI.2.1, fun r hr q => hI.2.2 r hr q ?_⟩
    have := (hW.2.2.1 r hr).2.1; omega
  · intro n o u ho hI ih
    obtain ⟨i1, i2, i3⟩ := hI
    have hu := zb_MM_fr h i1 (by decide)
    simp only [F_Mo_prepare_b2]
    refine zb_Wneg (by first | omega | (simp (disch := omega) only [zb_lit, zb_n_add, zb_n_mul, zb_n_ix, zb_n_lt, zb_n_le, zb_n_eq, zb_ib_n] <;> omega)) ?_
    rw [zb_n_i o]
    refine zb_Wbind2 (zb_look hu.2.1 (o := o) (by omega) (by omega) hd hd9) (fun v hv => ?_)
    obtain ⟨v1, sm, ex, v2, _⟩ := hv
    rw [← zb_n_i o]
    have f1 : zb_fr zb_ZP s v := zb_fr_trans i1 (zb_fr_mono v1 (by decide))
    have e0 : (0 : Int32).toNatClampNeg = 0 := zb_n_ix (k := 0) (by omega)
    have e1 : (1 : Int32).toNatClampNeg = 1 := zb_n_ix (k := 1) (by omega)
    refine zb_Wpos (by decide) ?_
    refine zb_Wpos (by first | omega | (simp (disch := omega) only [zb_lit, zb_n_add, zb_n_mul, zb_n_ix, zb_n_lt, zb_n_le, zb_n_eq, zb_ib_n] <;> omega)) ?_
    refine zb_Wlet ?_
    rw [e0, e1, zb_n_ix (by omega), v2.1 0 (by omega)]
    refine zb_Wpos (by decide) ?_
    have e201 : (ss_setI v 216 o (zb_i (zb_v K LO LD LE (↑o) d (0 + 1)))).1 201 1 = zb_i (zb_v K LO LD LE o d 2) := by rw [zb_set_ne (by omega)]; exact v2.1 1 (by omega)
    have vr := zb_v_rg h.2.1 o d 2
    -- behind the small: classes, miles, tolls
    have b53 : zb_W (F_Mo_prepare_b53 (F_Mo_prepare_b2 n) (zb_i d) (zb_n o) (zb_n o) (zb_i (min (zb_v K LO LD LE o d 2) 99)) (ss_setI v 216 o (zb_i (zb_v K LO LD LE (↑o) d (0 + 1))))) (fun u => zb_fr zb_ZP s u ∧ zb_PP N A B M O K LO LD LE Q R d u) := by
      unfold F_Mo_prepare_b53
      refine zb_Wpos (by first | omega | (simp (disch := omega) only [zb_lit, zb_n_add, zb_n_mul, zb_n_ix, zb_n_lt, zb_n_le, zb_n_eq, zb_ib_n] <;> omega)) ?_
      refine zb_Wlet ?_
      rw [zb_n_ix (by omega)]
      refine zb_for (fun n g u => F_Mo_prepare_b56 (F_Mo_prepare_b2 _) n (zb_i d) (zb_n o) (zb_n g) u) 20 (fun g w => zb_fr zb_ZP s w ∧ zb_fr [217] (ss_setI (ss_setI v 216 o (zb_i (zb_v K LO LD LE (↑o) d (0 + 1)))) 215 o (zb_i (min (zb_v K LO LD LE o d 2) 99))) w ∧ (∀ j, j < g → w.1 217 (20 * o + j) = zb_i (zb_v K LO LD LE o d (20 + j))) ∧ ∀ k, k < 20 * o → w.1 217 k = v.1 217 k) ?_ ?_ ss_F 0 _ (by omega) (by unfold ss_F; omega) ⟨zb_fr_set (zb_fr_set f1 rfl) rfl, zb_fr_refl _ _, fun j hj => absurd hj (by omega), fun k _ => by rw [zb_set_ne (by omega), zb_set_ne (by omega)]⟩
      · intro m w hw
        obtain ⟨w1, w2, w3, w4⟩ := hw
        have hw0 := zb_MM_fr h w1 (by decide)
        simp only [F_Mo_prepare_b56]
        refine zb_Wpos (by first | omega | (simp (disch := omega) only [zb_lit, zb_n_add, zb_n_mul, zb_n_ix, zb_n_lt, zb_n_le, zb_n_eq, zb_ib_n] <;> omega)) ?_
        rw [zb_n_i o]
        refine zb_Wbind2 (zb_findFar (o := o) (by omega) (by omega) hw0.1) (fun x hx => ?_)
        rw [← zb_n_i o]
        obtain ⟨x1, x2, x3⟩ := hx
        have fx : zb_fr zb_ZP s x := zb_fr_trans w1 (zb_fr_mono x1 (by decide))
        -- tolls
        refine zb_for (fun n r u => F_Mo_prepare_b92 (F_Mo_prepare_b2 _) n (zb_i d) (zb_n o) (zb_n r) u) Q (fun r y => zb_fr [218] x y ∧ ∀ q, q < Q → R q 1 = 3 → (R q 2 < o ∨ (R q 2 = o ∧ q < r)) → y.1 218 q = zb_i (zb_pt N A B M O (R q) (R q 5))) ?_ ?_ ss_F 0 x (by omega) (by unfold ss_F; omega) ⟨zb_fr_refl _ _, fun q hq q3 qo => ?_⟩
        · intro m2 y hy
          have fy : zb_fr zb_ZP s y := zb_fr_trans fx (zb_fr_mono hy.1 (by decide))
          have hy0 := zb_MM_fr h fy (by decide)
          simp only [F_Mo_prepare_b92]
          rw [hy0.2.2.2.1.1]
          refine zb_Wpos (Int32.le_refl _) (zb_Wlet ?_)
          simp (disch := omega) only [zb_lit, zb_n_add, zb_n_mul, zb_n_ix, zb_n_lt, zb_n_le, zb_n_eq, zb_ib_n]
          refine ih y ⟨fy, fun p hp => ?_, fun q hq q3 qo => hy.2 q hq q3 (by omega)⟩
          have k216 : ∀ j, y.1 216 j = (ss_setI v 216 o (zb_i (zb_v K LO LD LE (↑o) d (0 + 1)))).1 216 j := fun j => by rw [hy.1.1 216 j rfl, x1.1 216 j rfl, w2.1 216 j rfl, zb_set_ne (by omega)]
          have k215 : ∀ j, y.1 215 j = (ss_setI (ss_setI v 216 o (zb_i (zb_v K LO LD LE (↑o) d (0 + 1)))) 215 o (zb_i (min (zb_v K LO LD LE o d 2) 99))).1 215 j := fun j => by rw [hy.1.1 215 j rfl, x1.1 215 j rfl, w2.1 215 j rfl]
          have k217 : ∀ j, y.1 217 j = w.1 217 j := fun j => by rw [hy.1.1 217 j rfl, x1.1 217 j rfl]
          by_cases po : p = o
          · subst po
            refine ⟨?_, ?_, fun g hg => ?_⟩
            · rw [k216, zb_set_eq]
            · rw [k215, zb_set_eq]
            · rw [k217]; exact w3 g hg
          · obtain ⟨j1, j2, j3⟩ := i2 p (by omega)
            refine ⟨?_, ?_, fun g hg => ?_⟩
            · rw [k216, zb_set_ne (by omega), v1.1 216 p rfl]; exact j1
            · rw [k215, zb_set_ne (by omega), zb_set_ne (by omega), v1.1 215 p rfl]; exact j2
            · rw [k217, w4 _ (by omega), v1.1 217 _ rfl]; exact j3 g hg
        · intro m2 r y hr hy ih2
          have fy : zb_fr zb_ZP s y := zb_fr_trans fx (zb_fr_mono hy.1 (by decide))
          have hy0 := zb_MM_fr h fy (by decide)
          have rk := hW.2.2.1 r hr
          obtain ⟨h1, h2, h3, h4, h5, h6, _⟩ := id rk
          have E1 := zb_fldM hy0.2.2.2.1 hr (f := 1) (c := 205) (by omega) (by omega) rfl
          have E2 := zb_fldM hy0.2.2.2.1 hr (f := 2) (c := 206) (by omega) (by omega) rfl
          have E3 := zb_fldM hy0.2.2.2.1 hr (f := 3) (c := 207) (by omega) (by omega) rfl
          have E4 := zb_fldM hy0.2.2.2.1 hr (f := 4) (c := 208) (by omega) (by omega) rfl
          have E5 := zb_fldM hy0.2.2.2.1 hr (f := 5) (c := 209) (by omega) (by omega) rfl
          rw [zb_in_n h3.1] at E3
          rw [zb_in_n h4.1] at E4
          have skip : ¬ (R r 1 = 3 ∧ R r 2 = o) → zb_W (F_Mo_prepare_b176 (F_Mo_prepare_b2 n) (F_Mo_prepare_b92 (F_Mo_prepare_b2 n) m2) (zb_i d) (zb_n o) (zb_n r) y) (fun u => zb_fr zb_ZP s u ∧ zb_PP N A B M O K LO LD LE Q R d u) := by
            intro q
            unfold F_Mo_prepare_b176
            refine zb_Wlet ?_
            simp (disch := omega) only [zb_lit, zb_n_add, zb_n_mul, zb_n_ix, zb_n_lt, zb_n_le, zb_n_eq, zb_ib_n]
            refine ih2 y ⟨hy.1, fun p hp p3 po => hy.2 p hp p3 ?_⟩
            by_cases e : p = r
            · subst e; have := hW.2.2.1 p hp; omega
            · omega
          simp only [F_Mo_prepare_b92]
          rw [hy0.2.2.2.1.1]
          refine zb_Wneg (by first | omega | (simp (disch := omega) only [zb_lit, zb_n_add, zb_n_mul, zb_n_ix, zb_n_lt, zb_n_le, zb_n_eq, zb_ib_n] <;> omega)) ?_
          refine zb_Wpos (by first | omega | (simp (disch := omega) only [zb_lit, zb_n_add, zb_n_mul, zb_n_ix, zb_n_lt, zb_n_le, zb_n_eq, zb_ib_n] <;> omega)) ?_
          simp (disch := omega) only [zb_lit, zb_n_add, zb_n_mul, zb_n_ix, zb_n_lt, zb_n_le, zb_n_eq, zb_ib_n, E1, E2, E3, E4, E5]
          rw [zb_n_i 3, zb_n_i o]
          simp (disch := omega) only [zb_i_eq]
          rw [← zb_n_i o]
          refine zb_Wif (fun q1 => ?_) (fun q1 => skip (fun z => q1 z.1))
          have q1 : R r 1 = 3 := q1
          refine zb_Wpos (by omega) ?_
          refine zb_Wif (fun q2 => ?_) (fun q2 => skip (fun z => q2 z.2))
          refine zb_Wpos (by omega) (zb_Wpos (by omega) (zb_Wpos (by omega) (zb_Wlet ?_)))
          have x3' : y.1 192 (16 * (R r 3).toNat + (R r 4).toNat) = zb_i (zb_D N A B M O o (R r 3).toNat (R r 4).toNat) := by rw [hy.1.1 192 _ rfl]; exact x3 _ _ (by omega) (by omega)
          have D := zb_D_rg hL o (a := (R r 3).toNat) (b := (R r 4).toNat) (by omega) (by omega)
          have st : ∀ c : Int, c = zb_pt N A B M O (R r) (R r 5) → zb_W (F_Mo_prepare_b175 (F_Mo_prepare_b2 n) (F_Mo_prepare_b92 (F_Mo_prepare_b2 n) m2) (zb_i d) (zb_n o) (zb_n r) (zb_n r) (zb_i c) y) (fun u => zb_fr zb_ZP s u ∧ zb_PP N A B M O K LO LD LE Q R d u) := by
            intro c hc
            unfold F_Mo_prepare_b175 F_Mo_prepare_b176
            refine zb_Wpos (by first | omega | (simp (disch := omega) only [zb_lit, zb_n_add, zb_n_mul, zb_n_ix, zb_n_lt, zb_n_le, zb_n_eq, zb_ib_n] <;> omega)) ?_
            refine zb_Wlet (zb_Wlet ?_)
            simp (disch := omega) only [zb_lit, zb_n_add, zb_n_mul, zb_n_ix, zb_n_lt, zb_n_le, zb_n_eq, zb_ib_n]
            refine ih2 _ ⟨zb_fr_set hy.1 rfl, fun p hp p3 po => ?_⟩
            by_cases e : p = r
            · subst e; rw [zb_set_eq, hc]
            · rw [zb_set_ne (by omega)]; exact hy.2 p hp p3 (by omega)
          rw [x3']
          have ept : zb_pt N A B M O (R r) (R r 5) = if zb_D N A B M O o (R r 3).toNat (R r 4).toNat < 100000 then zb_D N A B M O o (R r 3).toNat (R r 4).toNat * R r 5 / 10 else -1 := by unfold zb_pt; rw [if_pos q1, q2]
          by_cases w : zb_D N A B M O o (R r 3).toNat (R r 4).toNat < 100000
          · rw [if_pos w] at ept
            refine zb_Wneg (by rw [zb_n_i, zb_i_le (by omega) (by omega) (by omega) (by omega)]; omega) ?_
            refine zb_Wpos (by omega) ?_
            have mm := zb_mulr (x := 3000) (y := 9999) D.1 (D.2.2 w) h6.1 h6.2.1
            rw [zb_n_i 10, zb_i_mul, zb_i_div (by omega) (by omega) (by omega) (by omega), Int.tdiv_eq_ediv_of_nonneg mm.1]
            exact st _ ept.symm
          · rw [if_neg w] at ept
            refine zb_Wpos (by rw [zb_n_i, zb_i_le (by omega) (by omega) (by omega) (by omega)]; omega) ?_
            have em : -zb_n 1 = zb_i (-1) := by decide
            rw [em]
            exact st _ ept.symm
        · rcases qo with qo | qo
          · rw [x1.1 218 q rfl, w2.1 218 q rfl, zb_set_ne (by omega), zb_set_ne (by omega), v1.1 218 q rfl]; exact i3 q hq q3 qo
          · omega
      · intro m g w hg hw ih2
        obtain ⟨w1, w2, w3, w4⟩ := hw
        simp only [F_Mo_prepare_b56]
        refine zb_Wneg (by first | omega | (simp (disch := omega) only [zb_lit, zb_n_add, zb_n_mul, zb_n_ix, zb_n_lt, zb_n_le, zb_n_eq, zb_ib_n] <;> omega)) ?_
        refine zb_Wpos (by first | omega | (simp (disch := omega) only [zb_lit, zb_n_add, zb_n_mul, zb_n_ix, zb_n_lt, zb_n_le, zb_n_eq, zb_ib_n] <;> omega)) ?_
        refine zb_Wpos (by first | omega | (simp (disch := omega) only [zb_lit, zb_n_add, zb_n_mul, zb_n_ix, zb_n_lt, zb_n_le, zb_n_eq, zb_ib_n] <;> omega)) ?_
        refine zb_Wlet (zb_Wlet ?_)
        have e199 : w.1 199 g = zb_i (zb_v K LO LD LE o d (20 + g)) := by rw [w2.1 199 g rfl, zb_set_ne (by omega), zb_set_ne (by omega)]; exact v2.2.2.2.1 g hg
        simp (disch := omega) only [zb_lit, zb_n_add, zb_n_mul, zb_n_ix, zb_n_lt, zb_n_le, zb_n_eq, zb_ib_n, e199]
        refine ih2 _ ⟨zb_fr_set w1 rfl, zb_fr_set w2 rfl, fun j hj => ?_, fun k hk => by rw [zb_set_ne (by omega)]; exact w4 k hk⟩
        by_cases q : j = g
        · subst q; rw [zb_set_eq]
        · rw [zb_set_ne (by omega)]; exact w3 j (by omega)
    rw [e201]
    have z99 : (zb_i (zb_v K LO LD LE o d 2) ≤ (99 : Int32)) = (zb_v K LO LD LE o d 2 ≤ 99) := by rw [show (99 : Int32) = zb_i 99 from zb_n_i 99]; exact zb_i_le (by omega) (by omega) (by omega) (by omega)
    simp only [z99]
    by_cases q : zb_v K LO LD LE o d 2 ≤ 99
    · rw [show min (zb_v K LO LD LE (↑o) d 2) 99 = zb_v K LO LD LE (↑o) d 2 by omega] at b53
      exact zb_Wpos q (zb_Wpos (by decide) b53)
    · rw [show min (zb_v K LO LD LE (↑o) d 2) 99 = 99 by omega] at b53
      exact zb_Wneg q (by rw [show (99 : Int32) = zb_i 99 from zb_n_i 99]; exact b53)
  · have := (hW.2.2.1 r hr).2.1; omega
theorem zb_chargeOf (hW : zb_MW N A B M O K LO LD LE td Q R T TK W WK Z ZK) (h : zb_MM N A B M O K LO LD LE td Q R T TK W WK Z ZK s) {d : Int} (hP : zb_PP N A B M O K LO LD LE Q R d s) {r g : Nat} (hr : r < Q) (hg : g < 20) {tons : Int} (ht : 1 ≤ tons) (ht9 : tons ≤ 99) (hd : 0 ≤ d) (hd9 : d ≤ 9999) : F_Mo_chargeOf (zb_n r) (zb_n g) (zb_i tons) (zb_i d) s = some (zb_i (zb_fee N A B M O K LO LD LE (R r) (R r 5) g tons d)) := by
  have hL := zb_RM_RL h.1
  have hQ := hW.2.1
  have rk := hW.2.2.1 r hr
  obtain ⟨h1, h2, h3, h4, h5, h6, h7, h8, h9, h10, h11⟩ := id rk
  have hq := h.2.2.2.1
  have E1 := zb_fldM hq hr (f := 1) (c := 205) (by omega) (by omega) rfl
  have E2 := zb_fldM hq hr (f := 2) (c := 206) (by omega) (by omega) rfl
  have E5 := zb_fldM hq hr (f := 5) (c := 209) (by omega) (by omega) rfl
  have E6 := zb_fldM hq hr (f := 6) (c := 210) (by omega) (by omega) rfl
  have E7 := zb_fldM hq hr (f := 7) (c := 211) (by omega) (by omega) rfl
  have E8 := zb_fldM hq hr (f := 8) (c := 212) (by omega) (by omega) rfl
  have E9 := zb_fldM hq hr (f := 9) (c := 213) (by omega) (by omega) rfl
  have E2' := E2
  rw [zb_in_n h2.1] at E2
  obtain ⟨p1, p2, p3⟩ := hP.1 (R r 2).toNat (by omega)
  have eo : (((R r 2).toNat : Nat) : Int) = R r 2 := Int.toNat_of_nonneg h2.1
  rw [eo] at p1 p2 p3
  have ir : sv_ib (zb_n r) 60 = true := by rw [zb_ib_n (by omega)]; omega
  have io : sv_ib (zb_n (R r 2).toNat) 6 = true := by rw [zb_ib_n (by omega)]; omega
  have xr : (zb_n r).toNatClampNeg = r := zb_n_ix (by omega)
  have xo : (zb_n (R r 2).toNat).toNatClampNeg = (R r 2).toNat := zb_n_ix (by omega)
  have P := zb_pt_rg hL rk h6.1 h6.2.1
  have v1 := zb_v_rg h.2.1 (R r 2) d 1
  have v2 := zb_v_rg h.2.1 (R r 2) d 2
  have b118 : ∀ p : Int, p = zb_pt N A B M O (R r) (R r 5) → F_Mo_chargeOf_b118 s (zb_n r) (zb_i tons) (zb_i p) = some (zb_i (if p < 0 then -1 else max tons (min (zb_v K LO LD LE (R r 2) d 2) 99) * (p + zb_v K LO LD LE (R r 2) d 1))) := by
    intro p hp
    unfold F_Mo_chargeOf_b118 F_Mo_chargeOf_b157
    rw [xr, E2, xo, p1, p2, zb_m1]
    simp only [ir, io, if_true]
    by_cases q : p < 0
    · rw [if_pos q, if_neg (by rw [show (0 : Int32) = zb_i 0 from zb_n_i 0, zb_i_le (by omega) (by omega) (by omega) (by omega)]; omega)]
    · rw [if_neg q, if_pos (zb_ge0 (by omega) (by omega)), zb_i_add, zb_i_mul, zb_i_mul]
      by_cases w : tons ≤ min (zb_v K LO LD LE (R r 2) d 2) 99
      · rw [if_pos (by rw [zb_i_le (by omega) (by omega) (by omega) (by omega)]; exact w), show max tons (min (zb_v K LO LD LE (R r 2) d 2) 99) = min (zb_v K LO LD LE (R r 2) d 2) 99 by omega]
      · rw [if_neg (by rw [zb_i_le (by omega) (by omega) (by omega) (by omega)]; exact w), show max tons (min (zb_v K LO LD LE (R r 2) d 2) 99) = tons by omega]
  have b93 : F_Mo_chargeOf_b93 s (zb_n r) (zb_i tons) = some (zb_i (if zb_pt N A B M O (R r) (R r 5) < 0 then -1 else max tons (min (zb_v K LO LD LE (R r 2) d 2) 99) * (zb_pt N A B M O (R r) (R r 5) + zb_v K LO LD LE (R r 2) d 1))) := by
    unfold F_Mo_chargeOf_b93
    rw [xr, E1, E5]
    simp only [ir, if_true]
    by_cases q : R r 1 = 3
    · rw [if_pos (by rw [q]; rfl), hP.2 r hr q]
      exact b118 _ rfl
    · rw [if_neg (by rw [show (3 : Int32) = zb_i 3 from zb_n_i 3, zb_i_eq (by omega) (by omega) (by omega) (by omega)]; exact q)]
      have : zb_pt N A B M O (R r) (R r 5) = R r 5 := by unfold zb_pt; rw [if_neg q]
      rw [this]; rw [this] at b118
      exact b118 _ rfl
  have b33 : F_Mo_chargeOf_b33 s (zb_n r) (zb_n g) (zb_i tons) = some (zb_i (if tons < R r 9 then -1 else if R r 6 ≠ (if R r 1 = 2 then (g : Int) else zb_v K LO LD LE (R r 2) d (20 + g)) then -1 else if zb_pt N A B M O (R r) (R r 5) < 0 then -1 else max tons (min (zb_v K LO LD LE (R r 2) d 2) 99) * (zb_pt N A B M O (R r) (R r 5) + zb_v K LO LD LE (R r 2) d 1))) := by
    unfold F_Mo_chargeOf_b33
    rw [xr, E1, E2, E6, E9, b93, zb_m1]
    simp only [ir, if_true]
    by_cases q : R r 1 = 2
    · rw [if_pos (by rw [q]; rfl), if_pos q]
      by_cases q6 : R r 6 = g
      · rw [if_pos (by rw [zb_n_i, q6])]
        by_cases q9 : R r 9 ≤ tons
        · rw [if_pos (by rw [zb_i_le (by omega) (by omega) (by omega) (by omega)]; exact q9), if_neg (show ¬ tons < R r 9 by omega), if_neg (show ¬ (R r 6 ≠ (g : Int)) from fun z => z q6)]
        · rw [if_neg (by rw [zb_i_le (by omega) (by omega) (by omega) (by omega)]; exact q9), if_pos (show tons < R r 9 by omega)]
      · rw [if_neg (by rw [zb_n_i, zb_i_eq (by omega) (by omega) (by omega) (by omega)]; exact q6), if_pos (show R r 6 ≠ (g : Int) from q6)]
        split <;> rfl
    · have e9 := h10.2.2 q
      have gg := (zb_v_rg h.2.1 (R r 2) d (20 + g)).2.2.2 (by omega)
      have gg0 := (zb_v_rg h.2.1 (R r 2) d (20 + g)).1
      have ix : (20 : Int32) * zb_n (R r 2).toNat + zb_n g = zb_n (20 * (R r 2).toNat + g) := by rw [show (20 : Int32) = zb_n 20 from rfl, zb_n_mul, zb_n_add]
      rw [if_neg (by rw [show (2 : Int32) = zb_i 2 from zb_n_i 2, zb_i_eq (by omega) (by omega) (by omega) (by omega)]; exact q), if_neg q, ix, if_pos (by rw [zb_ib_n (by omega)]; omega), zb_n_ix (by omega), p3 g hg, if_neg (show ¬ tons < R r 9 by omega)]
      by_cases q6 : R r 6 = zb_v K LO LD LE (R r 2) d (20 + g)
      · rw [if_pos (by rw [q6]), if_neg (show ¬ (R r 6 ≠ zb_v K LO LD LE (R r 2) d (20 + g)) from fun z => z q6)]
      · rw [if_neg (by rw [zb_i_eq (by omega) (by omega) (by omega) (by omega)]; exact fun z => q6 z.symm), if_pos (show R r 6 ≠ zb_v K LO LD LE (R r 2) d (20 + g) from q6)]
  unfold F_Mo_chargeOf zb_fee
  rw [xr, E7, E8, b33, zb_m1]
  simp only [ir, if_true]
  by_cases p7 : d < R r 7
  · rw [if_pos (by rw [zb_i_lt (by omega) (by omega) (by omega) (by omega)]; exact p7), if_pos (show ¬ (R r 7 ≤ d ∧ (R r 8 < 0 ∨ d < R r 8)) by omega)]
  · rw [if_neg (by rw [zb_i_lt (by omega) (by omega) (by omega) (by omega)]; exact p7)]
    by_cases p8 : R r 8 < 0
    · rw [if_pos (by rw [show (0 : Int32) = zb_i 0 from zb_n_i 0, zb_i_lt (by omega) (by omega) (by omega) (by omega)]; exact p8), if_neg (show ¬ ¬ (R r 7 ≤ d ∧ (R r 8 < 0 ∨ d < R r 8)) by omega)]
    · rw [if_neg (by rw [show (0 : Int32) = zb_i 0 from zb_n_i 0, zb_i_lt (by omega) (by omega) (by omega) (by omega)]; exact p8)]
      by_cases p9 : d < R r 8
      · rw [if_pos (by rw [zb_i_lt (by omega) (by omega) (by omega) (by omega)]; exact p9), if_neg (show ¬ ¬ (R r 7 ≤ d ∧ (R r 8 < 0 ∨ d < R r 8)) by omega)]
      · rw [if_neg (by rw [zb_i_lt (by omega) (by omega) (by omega) (by omega)]; exact p9), if_pos (show ¬ (R r 7 ≤ d ∧ (R r 8 < 0 ∨ d < R r 8)) by omega)]
end MF
