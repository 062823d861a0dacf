/-! both sides' cheapest, with what they leave; ships -/
def zb_ZF : List Nat := [227, 187059, 228, 187060, 187061, 229]
def zb_ZXc : List Nat := [81003, 160, 161, 159004, 162, 159005]
section CHS
variable {N K td Q T W Z : Nat} {A B O ZK : Nat → Nat} {M LO LD : Nat → Int} {LE : Nat → List zb_EF} {R TK WK : Nat → Nat → Int} {s : sv_S}
variable {x1 x2 x3 x4 x5 x6 x7 : Int32}
theorem zb_fJ (h : zb_J1 N A B M O K LO LD LE td Q R T TK W WK Z ZK s) {g : Nat} {tons d : Int} (ht : 1 ≤ tons) (ht9 : tons ≤ 99) : ∀ r, r < Q → -1 ≤ zb_fee N A B M O K LO LD LE (R r) (R r 5) g tons d ∧ zb_fee N A B M O K LO LD LE (R r) (R r 5) g tons d ≤ 4000000 := by
  intro r hr
  have rk := h.1.2.2.1 r hr
  have p := rk.2.2.2.2.2.1
  exact zb_fee_rg2 (zb_RM_RL h.2.1.1) rk p.1 p.2.1 p.2.2 ht ht9 (zb_vJ h.2.1.2.1 d)
/-- the class prices and sums -/
theorem zb_carry_X (h : zb_J1 N A B M O K LO LD LE td Q R T TK W WK Z ZK s) {g b : Nat} {tons d : Int} (hg : g < 20) (ht : 1 ≤ tons) (ht9 : tons ≤ 99) (hd : 0 ≤ d) (hd9 : d ≤ 9999) : zb_W (F_Ca_price (zb_n g) (zb_i tons) (zb_i d) s) (fun u => zb_J1 N A B M O K LO LD LE td Q R T TK W WK Z ZK u ∧ zb_fx zb_ZXc s u ∧ zb_PC Q (fun r => zb_fee N A B M O K LO LD LE (R r) (R r 5) g tons d) u) := by
  refine zb_Wmono (zb_price h.1 (zb_RM_RL h.2.1.1) h.2.1.2.1 h.2.2.1 hg ht ht9 hd hd9) (fun u hu => ?_)
  have f1 : zb_fx zb_ZXc s u := zb_fx_mono hu.1 (by decide)
  exact ⟨zb_J_X h hu.2.1 f1 (by decide), f1, hu.2.2⟩
theorem zb_reach_X (h : zb_J1 N A B M O K LO LD LE td Q R T TK W WK Z ZK s) {f : Nat → Int} {b : Nat} (hf : ∀ r, r < Q → f r ≤ 4000000) (hP : zb_PC Q f s) (hb : b < 16) : zb_W (F_Ca_reach (zb_n b) s) (fun u => zb_J1 N A B M O K LO LD LE td Q R T TK W WK Z ZK u ∧ zb_fr [162, 159005] s u ∧ zb_PC Q f u ∧ ∃ L, zb_RW f (fun r => (R r 3).toNat) (fun r => (R r 4).toNat) Q b L u) := by
  refine zb_Wmono (zb_reach hf (zb_MX_RC h.1 h.2.2.1) hP hb) (fun u hu => ?_)
  refine ⟨zb_J_X h (zb_MX_fr h.1.2.1 h.2.2.1 hu.1 (by decide) (by decide)) (zb_fr_fx hu.1) (by decide), hu.1, zb_PC_fr hP hu.1 (by decide), hu.2⟩
/-- the model charges and sums -/
theorem zb_findCheap (h : zb_J1 N A B M O K LO LD LE td Q R T TK W WK Z ZK s) {d : Int} (hP : zb_PP N A B M O K LO LD LE Q R d s) {a b g : Nat} {tons : Int} (ha : a < 16) (hb : b < 16) (hab : a ≠ b) (hg : g < 20) (ht : 1 ≤ tons) (ht9 : tons ≤ 99) (hd : 0 ≤ d) (hd9 : d ≤ 9999) : zb_W (F_Mo_findCheap (zb_n a) (zb_n b) (zb_n g) (zb_i tons) (zb_i d) s) (fun r => zb_J1 N A B M O K LO LD LE td Q R T TK W WK Z ZK r.2 ∧ zb_PP N A B M O K LO LD LE Q R d r.2 ∧ zb_fr zb_ZF s r.2 ∧ zb_RCM Q (fun r => (R r 3).toNat) (fun r => (R r 4).toNat) (fun r => (R r 2).toNat) (fun r => zb_fee N A B M O K LO LD LE (R r) (R r 5) g tons d) r.2 ∧ ∃ t, zb_CHm (fun r => zb_fee N A B M O K LO LD LE (R r) (R r 5) g tons d) (fun r => (R r 3).toNat) (fun r => (R r 4).toNat) Q b a t r) := by
  have hQ := h.1.2.1
  have fr := zb_fJ h (g := g) (d := d) ht ht9
  unfold F_Mo_findCheap
  refine zb_for (fun n r u => F_Mo_findCheap_b3 n (zb_n a) (zb_n b) (zb_n g) (zb_i tons) (zb_i d) (zb_n r) u) Q (fun r u => zb_fr zb_ZF s u ∧ ∀ q, q < r → u.1 227 q = zb_i (zb_fee N A B M O K LO LD LE (R q) (R q 5) g tons d)) ?_ ?_ ss_F 0 s (by omega) (by unfold ss_F; omega) ⟨zb_fr_refl _ _, fun q hq => absurd hq (by omega)⟩
  · intro n u hu
    have Ju := zb_J_M h hu.1 (by decide) (by decide)
    have RC : zb_RCM Q (fun r => (R r 3).toNat) (fun r => (R r 4).toNat) (fun r => (R r 2).toNat) (fun r => zb_fee N A B M O K LO LD LE (R r) (R r 5) g tons d) u := by
      refine ⟨hQ, Ju.2.1.2.2.2.1.1, fun r hr => ?_⟩
      obtain ⟨h1, h2, h3, h4, _⟩ := h.1.2.2.1 r hr
      rw [zb_fldM Ju.2.1.2.2.2.1 hr (f := 2) (c := 206) (by omega) (by omega) rfl, zb_fldM Ju.2.1.2.2.2.1 hr (f := 3) (c := 207) (by omega) (by omega) rfl, zb_fldM Ju.2.1.2.2.2.1 hr (f := 4) (c := 208) (by omega) (by omega) rfl, zb_in_n h2.1, zb_in_n h3.1, zb_in_n h4.1]
      exact ⟨rfl, rfl, rfl, hu.2 r hr, show (R r 2).toNat < 6 by omega, show (R r 3).toNat < 16 by omega, show (R r 4).toNat < 16 by omega, (fr r hr).1, (fr r hr).2⟩
    simp only [F_Mo_findCheap_b3]
    rw [Ju.2.1.2.2.2.1.1]
    refine zb_Wpos (Int32.le_refl _) ?_
    refine zb_Wbind2 (zb_sumUp RC ha hb hab) (fun v hv => ?_)
    refine zb_Wpos (by rw [hv.2.1]; exact zb_bl_b) (zb_Wsome ?_)
    have f2 : zb_fr zb_ZF s v.2 := zb_fr_trans hu.1 (zb_fr_mono hv.1 (by decide))
    exact ⟨zb_J_M h f2 (by decide) (by decide), zb_PP_fr hP f2 (by decide), f2, zb_RCM_fr RC hv.1 (by decide), u, hv⟩
  · intro n r u hr hu ih
    have Ju := zb_J_M h hu.1 (by decide) (by decide)
    simp only [F_Mo_findCheap_b3]
    rw [Ju.2.1.2.2.2.1.1]
    refine zb_Wneg (by rw [zb_n_le (by omega) (by omega)]; omega) ?_
    rw [zb_chargeOf Ju.1 Ju.2.1 (zb_PP_fr hP hu.1 (by decide)) hr hg ht ht9 hd hd9]
    refine zb_Wbind (zb_Wsome ?_)
    refine zb_Wpos (by first | omega | (simp (disch := omega) only [zb_lit, zb_n_add, zb_n_mul, zb_n_ix, zb_n_lt, zb_n_le, zb_n_eq, zb_ib_n] <;> omega)) ?_
    refine zb_Wlet (zb_Wlet ?_)
    rw [zb_n_ix (by omega), show zb_n r + (1 : Int32) = zb_n (r + 1) from zb_n_add r 1]
    refine ih _ ⟨zb_fr_set hu.1 rfl, fun q hq => ?_⟩
    by_cases e : q = r
    · subst e; rw [zb_set_eq]
    · rw [zb_set_ne (by omega)]; exact hu.2 q (by omega)
/-- is a want worth its carriage -/
def zb_wf (N : Nat) (A B : Nat → Nat) (M : Nat → Int) (O : Nat → Nat) (K : Nat) (LO LD : Nat → Int) (LE : Nat → List zb_EF) (R WK : Nat → Nat → Int) (d : Int) (w : Nat) : Nat → Int := fun r => zb_fee N A B M O K LO LD LE (R r) (R r 5) (WK w 2).toNat (WK w 3) d
def zb_ws8 (f : Nat → Int) (R WK : Nat → Nat → Int) (Q w : Nat) : Int := zb_Sx f (fun r => (R r 3).toNat) (fun r => (R r 4).toNat) Q (WK w 1).toNat 8 (WK w 0).toNat
def zb_wo (f : Nat → Int) (R WK : Nat → Nat → Int) (Q w : Nat) : Bool := decide (zb_ws8 f R WK Q w < zb_mu ∧ zb_ws8 f R WK Q w ≤ WK w 3 * WK w 4)
theorem zb_isWorth (h : zb_J1 N A B M O K LO LD LE td Q R T TK W WK Z ZK s) {f : Nat → Int} (hf : ∀ r, r < Q → f r ≤ 4000000) (hP : zb_PC Q f s) {w : Nat} (hw : w < W) : zb_W (F_Wa_isWorth (zb_n w) s) (fun r => r.1 = zb_b (zb_wo f R WK Q w) ∧ zb_J1 N A B M O K LO LD LE td Q R T TK W WK Z ZK r.2 ∧ zb_fr [162, 159005] s r.2 ∧ zb_PC Q f r.2 ∧ ∃ L, zb_RW f (fun r => (R r 3).toNat) (fun r => (R r 4).toNat) Q (WK w 1).toNat L r.2) := by
  have hW20 := h.1.2.2.2.2.2.1
  obtain ⟨a1, a2, a3, a4, a5, a6⟩ := h.1.2.2.2.2.2.2.1 w hw
  have iw : sv_ib (zb_n w) 20 = true := by rw [zb_ib_n (by omega)]; omega
  have row := h.2.2.1.2.2.2.2.2.2.1.2 w hw
  unfold F_Wa_isWorth
  refine zb_Wpos iw ?_
  rw [zb_n_ix (by omega), show s.1 165 w = zb_n (WK w 1).toNat by rw [← zb_in_n a2.1]; exact row 1 (by omega)]
  refine zb_Wbind2 (zb_reach_X h hf hP (by omega)) (fun u hu => ?_)
  obtain ⟨u1, u2, u3, L, u4⟩ := hu
  refine zb_Wpos iw ?_
  rw [u2.1 164 w rfl, u2.1 167 w rfl, u2.1 168 w rfl, show s.1 164 w = zb_n (WK w 0).toNat by rw [← zb_in_n a1.1]; exact row 0 (by omega), show s.1 167 w = zb_i (WK w 3) from row 3 (by omega), show s.1 168 w = zb_i (WK w 4) from row 4 (by omega), zb_leastFrom u4 (by omega), zb_i_mul]
  refine zb_Wbind (zb_Wsome ?_)
  have mu := zb_Sx_mu (f := f) (Fr := fun r => (R r 3).toNat) (To := fun r => (R r 4).toNat) (Q := Q) (b := (WK w 1).toNat) 8 (WK w 0).toNat
  have pm := zb_mulr (x := 99) (y := 999) (by omega : 0 ≤ WK w 3) a5.2 a6.1 a6.2
  unfold zb_wo
  have e8 : zb_ws8 f R WK Q w = zb_Sx f (fun r => (R r 3).toNat) (fun r => (R r 4).toNat) Q (WK w 1).toNat 8 (WK w 0).toNat := rfl
  rw [← e8] at mu ⊢
  generalize zb_ws8 f R WK Q w = v at *
  by_cases q : v < zb_mu
  · rw [if_pos q]
    unfold zb_mu at q mu
    refine zb_Wneg (zb_ge0' mu.1 (by omega)) (zb_Wpos iw (zb_Wpos iw ?_))
    by_cases q2 : WK w 3 * WK w 4 < v
    · refine zb_Wpos (by rw [zb_i_lt (by omega) (by omega) (by omega) (by omega)]; exact q2) (zb_Wsome ⟨?_, u1, u2, u3, L, u4⟩)
      rw [decide_eq_false (by omega)]; rfl
    · refine zb_Wneg (by rw [zb_i_lt (by omega) (by omega) (by omega) (by omega)]; exact q2) (zb_Wsome ⟨?_, u1, u2, u3, L, u4⟩)
      rw [decide_eq_true (by unfold zb_mu; omega)]; rfl
  · rw [if_neg q]
    refine zb_Wpos (by decide) (zb_Wsome ⟨?_, u1, u2, u3, L, u4⟩)
    rw [decide_eq_false (by omega)]; rfl
theorem zb_goes_X (h : zb_J1 N A B M O K LO LD LE td Q R T TK W WK Z ZK s) {w : Nat} {d : Int} (hw : w < W) (hd : 0 ≤ d) (hd9 : d ≤ 9999) : zb_W (F_Wa_goes (zb_n w) (zb_i d) s) (fun r => r.1 = zb_b (zb_wo (zb_wf N A B M O K LO LD LE R WK d w) R WK Q w) ∧ zb_J1 N A B M O K LO LD LE td Q R T TK W WK Z ZK r.2 ∧ zb_fx zb_ZXc s r.2 ∧ zb_PC Q (zb_wf N A B M O K LO LD LE R WK d w) r.2 ∧ ∃ L, zb_RW (zb_wf N A B M O K LO LD LE R WK d w) (fun r => (R r 3).toNat) (fun r => (R r 4).toNat) Q (WK w 1).toNat L r.2) := by
  have hW20 := h.1.2.2.2.2.2.1
  obtain ⟨a1, a2, a3, a4, a5, a6⟩ := h.1.2.2.2.2.2.2.1 w hw
  have iw : sv_ib (zb_n w) 20 = true := by rw [zb_ib_n (by omega)]; omega
  have row := h.2.2.1.2.2.2.2.2.2.1.2 w hw
  unfold F_Wa_goes
  refine zb_Wpos iw (zb_Wpos iw ?_)
  rw [zb_n_ix (by omega), show s.1 166 w = zb_n (WK w 2).toNat by rw [← zb_in_n a4.1]; exact row 2 (by omega), show s.1 167 w = zb_i (WK w 3) from row 3 (by omega)]
  refine zb_Wbind2 (zb_carry_X (b := 0) h (by omega) a5.1 a5.2 hd hd9) (fun u hu => ?_)
  obtain ⟨u1, u2, u3⟩ := hu
  refine zb_Wbind2 (zb_isWorth (f := zb_wf N A B M O K LO LD LE R WK d w) u1 (fun r hr => (zb_fJ h (g := (WK w 2).toNat) (d := d) a5.1 a5.2 r hr).2) u3 hw) (fun v hv => ?_)
  obtain ⟨v1, v2, v3, v4, v5⟩ := hv
  refine zb_Wpos (by rw [v1]; exact zb_bl_b) (zb_Wsome ⟨v1, v2, zb_fx_trans u2 (zb_fr_fx (zb_fr_mono v3 (by decide))), v4, v5⟩)
theorem zb_doesShip (h : zb_J1 N A B M O K LO LD LE td Q R T TK W WK Z ZK s) {w : Nat} {d : Int} (hP : zb_PP N A B M O K LO LD LE Q R d s) (hw : w < W) (hd : 0 ≤ d) (hd9 : d ≤ 9999) : zb_W (F_Mo_doesShip (zb_n w) (zb_i d) s) (fun r => r.1 = zb_b (zb_wo (zb_wf N A B M O K LO LD LE R WK d w) R WK Q w) ∧ zb_J1 N A B M O K LO LD LE td Q R T TK W WK Z ZK r.2 ∧ zb_PP N A B M O K LO LD LE Q R d r.2 ∧ zb_fr zb_ZF s r.2 ∧ zb_RCM Q (fun r => (R r 3).toNat) (fun r => (R r 4).toNat) (fun r => (R r 2).toNat) (zb_wf N A B M O K LO LD LE R WK d w) r.2 ∧ (zb_wo (zb_wf N A B M O K LO LD LE R WK d w) R WK Q w = true → r.2.1 187 60 = zb_n (zb_cm (zb_wf N A B M O K LO LD LE R WK d w) (fun r => (R r 3).toNat) (fun r => (R r 4).toNat) Q (WK w 1).toNat (WK w 0).toNat) ∧ ∀ i, i < zb_cm (zb_wf N A B M O K LO LD LE R WK d w) (fun r => (R r 3).toNat) (fun r => (R r 4).toNat) Q (WK w 1).toNat (WK w 0).toNat → r.2.1 229 i = zb_n (zb_ri (zb_wf N A B M O K LO LD LE R WK d w) (fun r => (R r 3).toNat) (fun r => (R r 4).toNat) Q (WK w 1).toNat (zb_cm (zb_wf N A B M O K LO LD LE R WK d w) (fun r => (R r 3).toNat) (fun r => (R r 4).toNat) Q (WK w 1).toNat (WK w 0).toNat) (WK w 0).toNat i))) := by
  have hW20 := h.1.2.2.2.2.2.1
  obtain ⟨a1, a2, a3, a4, a5, a6⟩ := h.1.2.2.2.2.2.2.1 w hw
  have iw : sv_ib (zb_n w) 20 = true := by rw [zb_ib_n (by omega)]; omega
  have row := h.2.1.2.2.2.2.2.1.2 w hw
  unfold F_Mo_doesShip
  refine zb_Wpos iw (zb_Wpos iw (zb_Wpos iw (zb_Wpos iw ?_)))
  rw [zb_n_ix (by omega), show s.1 230 w = zb_n (WK w 0).toNat by rw [← zb_in_n a1.1]; exact row 0 (by omega), show s.1 231 w = zb_n (WK w 1).toNat by rw [← zb_in_n a2.1]; exact row 1 (by omega), show s.1 232 w = zb_n (WK w 2).toNat by rw [← zb_in_n a4.1]; exact row 2 (by omega), show s.1 233 w = zb_i (WK w 3) from row 3 (by omega)]
  refine zb_Wbind2 (zb_findCheap h hP (by omega) (by omega) (by omega) (by omega) a5.1 a5.2 hd hd9) (fun r hr => ?_)
  obtain ⟨r1, r2, r3, r4, t, r5⟩ := hr
  obtain ⟨_, c1, c2⟩ := r5
  have row2 := r1.2.1.2.2.2.2.2.1.2 w hw
  have mu := zb_Sx_mu (f := zb_wf N A B M O K LO LD LE R WK d w) (Fr := fun r => (R r 3).toNat) (To := fun r => (R r 4).toNat) (Q := Q) (b := (WK w 1).toNat) 8 (WK w 0).toNat
  have pm := zb_mulr (x := 99) (y := 999) (by omega : 0 ≤ WK w 3) a5.2 a6.1 a6.2
  have c1' : r.1 = zb_b (decide (zb_ws8 (zb_wf N A B M O K LO LD LE R WK d w) R WK Q w < zb_mu)) := c1
  have c2' : zb_ws8 (zb_wf N A B M O K LO LD LE R WK d w) R WK Q w < zb_mu → r.2.1 187 60 = zb_n (zb_cm (zb_wf N A B M O K LO LD LE R WK d w) (fun r => (R r 3).toNat) (fun r => (R r 4).toNat) Q (WK w 1).toNat (WK w 0).toNat) ∧ r.2.1 187 61 = zb_i (zb_ws8 (zb_wf N A B M O K LO LD LE R WK d w) R WK Q w) ∧ ∀ i, i < zb_cm (zb_wf N A B M O K LO LD LE R WK d w) (fun r => (R r 3).toNat) (fun r => (R r 4).toNat) Q (WK w 1).toNat (WK w 0).toNat → r.2.1 229 i = zb_n (zb_ri (zb_wf N A B M O K LO LD LE R WK d w) (fun r => (R r 3).toNat) (fun r => (R r 4).toNat) Q (WK w 1).toNat (zb_cm (zb_wf N A B M O K LO LD LE R WK d w) (fun r => (R r 3).toNat) (fun r => (R r 4).toNat) Q (WK w 1).toNat (WK w 0).toNat) (WK w 0).toNat i) := c2
  have mu' : 0 ≤ zb_ws8 (zb_wf N A B M O K LO LD LE R WK d w) R WK Q w ∧ zb_ws8 (zb_wf N A B M O K LO LD LE R WK d w) R WK Q w ≤ zb_mu := mu
  have r4' : zb_RCM Q (fun r => (R r 3).toNat) (fun r => (R r 4).toNat) (fun r => (R r 2).toNat) (zb_wf N A B M O K LO LD LE R WK d w) r.2 := r4
  rw [c1']
  unfold zb_wo
  by_cases q : zb_ws8 (zb_wf N A B M O K LO LD LE R WK d w) R WK Q w < zb_mu
  · obtain ⟨d1, d2, d3⟩ := c2' q
    refine zb_Wneg (zb_bT q) (zb_Wpos iw (zb_Wpos iw ?_))
    rw [show r.2.1 233 w = zb_i (WK w 3) from row2 3 (by omega), show r.2.1 234 w = zb_i (WK w 4) from row2 4 (by omega), d2, zb_i_mul]
    unfold zb_mu at q mu'
    by_cases q2 : WK w 3 * WK w 4 < zb_ws8 (zb_wf N A B M O K LO LD LE R WK d w) R WK Q w
    · refine zb_Wpos (by rw [zb_i_lt (by omega) (by omega) (by omega) (by omega)]; exact q2) (zb_Wsome ⟨?_, r1, r2, r3, r4', fun _ => ⟨d1, d3⟩⟩)
      rw [decide_eq_false (by omega)]; rfl
    · refine zb_Wneg (by rw [zb_i_lt (by omega) (by omega) (by omega) (by omega)]; exact q2) (zb_Wsome ⟨?_, r1, r2, r3, r4', fun _ => ⟨d1, d3⟩⟩)
      rw [decide_eq_true (by unfold zb_mu; omega)]; rfl
  · refine zb_Wpos (zb_bF q) (zb_Wsome ⟨?_, r1, r2, r3, r4', fun z => ?_⟩)
    · rw [decide_eq_false (fun z => q z.1)]; rfl
    · rw [decide_eq_true_eq] at z; exact absurd z.1 q
theorem zb_h_want (h : zb_MM N A B M O K LO LD LE td Q R T TK W WK Z ZK s) (hT : W ≤ 20) : F_Mo_in x1 (0 : Int32) ((s.1 187 63) - (1 : Int32)) s = some (zb_b (decide (0 ≤ x1.toInt ∧ x1.toInt < W))) := zb_isnL h.2.2.2.2.2.1.1 (by omega)
theorem zb_c_ships (h : zb_J s) : zb_m11 (F_X_ships x1 x2 s) (F_Mo_ships x1 x2) s := by
  obtain ⟨N, A, B, M, O, K, LO, LD, LE, td, Q, R, T, TK, W, WK, Z, ZK, h⟩ := h
  have hW := h.1
  have hW20 := hW.2.2.2.2.2.1
  refine zb_m11_of (v := if ¬ (0 ≤ x1.toInt ∧ x1.toInt < W) then (-1 : Int32) else if ¬ (0 ≤ x2.toInt ∧ x2.toInt ≤ 9999) then (-2 : Int32) else zb_b (zb_wo (zb_wf N A B M O K LO LD LE R WK x2.toInt x1.toInt.toNat) R WK Q x1.toInt.toNat)) (N := N) (A := A) (B := B) (M := M) (O := O) (K := K) (LO := LO) (LD := LD) (LE := LE) (td := td) (Q := Q) (R := R) (T := T) (TK := TK) (W := W) (WK := WK) (Z := Z) (ZK := ZK) ?_ (fun u hu => ?_)
  · have kr := zb_keep_refl s
    simp only [F_X_ships, zb_g_want h.2.2.1 hW20, zb_g_owner, zb_g_station, zb_g_good, zb_g_tape, zb_g_day, zb_g_tons, zb_g_stations, zb_g_no1, zb_h_owner, zb_h_station, zb_h_good, zb_h_day, zb_h_tons, zb_h_tape, zb_h_inL, Option.bind_some, zb_bz, Int32.reduceToInt, zb_m1t, zb_m3t]
    by_cases q1 : 0 ≤ x1.toInt ∧ x1.toInt < W
    rotate_left
    · simp only [q1, and_false, false_and, and_true, true_and, and_self, not_true, not_false_iff, if_false, if_true]; exact (zb_Wsome ⟨rfl, h, kr⟩)
    by_cases q2 : 0 ≤ x2.toInt ∧ x2.toInt ≤ 9999
    rotate_left
    · simp only [q1, q2, and_false, false_and, and_true, true_and, and_self, not_true, not_false_iff, if_false, if_true]; exact (zb_Wsome ⟨rfl, h, kr⟩)
    simp only [q1, q2, and_false, false_and, and_true, true_and, and_self, not_true, not_false_iff, if_false, if_true]
    have hw : x1.toInt.toNat < W := by omega
    conv => lhs; rw [zb_an q1.1, zb_i_of x2]
    refine zb_Wbind2 (zb_goes_X h hw q2.1 q2.2) (fun v hv => ?_)
    have k2 : zb_keep s v.2 := zb_keep_fx hv.2.2.1 rfl
    rw [hv.1]
    cases e : zb_wo (zb_wf N A B M O K LO LD LE R WK x2.toInt x1.toInt.toNat) R WK Q x1.toInt.toNat with
    | false => exact zb_Wpos rfl (zb_Wsome ⟨rfl, hv.2.1, k2⟩)
    | true => exact zb_Wneg (by decide) (zb_Wsome ⟨rfl, hv.2.1, k2⟩)
  · have kr := zb_keep_refl u
    simp only [F_Mo_ships, zb_h_want hu.2.1 hW20, zb_g_owner, zb_g_station, zb_g_good, zb_g_tape, zb_g_day, zb_g_tons, zb_g_stations, zb_g_no1, zb_h_owner, zb_h_station, zb_h_good, zb_h_day, zb_h_tons, zb_h_tape, zb_h_inL, Option.bind_some, zb_bz, Int32.reduceToInt, zb_m1t, zb_m3t]
    by_cases q1 : 0 ≤ x1.toInt ∧ x1.toInt < W
    rotate_left
    · simp only [q1, and_false, false_and, and_true, true_and, and_self, not_true, not_false_iff, if_false, if_true]; exact (zb_Wsome ⟨rfl, hu, kr⟩)
    by_cases q2 : 0 ≤ x2.toInt ∧ x2.toInt ≤ 9999
    rotate_left
    · simp only [q1, q2, and_false, false_and, and_true, true_and, and_self, not_true, not_false_iff, if_false, if_true]; exact (zb_Wsome ⟨rfl, hu, kr⟩)
    simp only [q1, q2, and_false, false_and, and_true, true_and, and_self, not_true, not_false_iff, if_false, if_true]
    have hw : x1.toInt.toNat < W := by omega
    conv => lhs; rw [zb_an q1.1, zb_i_of x2]
    refine zb_Wbind2 (zb_prepare hW hu.2.1 q2.1 q2.2) (fun p hp => ?_)
    have J2 := zb_J_M hu hp.1 (by decide) (by decide)
    refine zb_Wbind2 (zb_doesShip J2 hp.2 hw q2.1 q2.2) (fun v hv => ?_)
    have k2 : zb_keep u v.2 := zb_keep_trans (zb_keep_fr hp.1 rfl) (zb_keep_fr hv.2.2.2.1 rfl)
    rw [hv.1]
    cases e : zb_wo (zb_wf N A B M O K LO LD LE R WK x2.toInt x1.toInt.toNat) R WK Q x1.toInt.toNat with
    | false => exact zb_Wpos rfl (zb_Wsome ⟨rfl, hv.2.1, k2⟩)
    | true => exact zb_Wneg (by decide) (zb_Wsome ⟨rfl, hv.2.1, k2⟩)
end CHS
