/-! one side alone -/
section SID
variable {N K td Q T W Z : Nat} {A B O ZK : Nat → Nat} {M LO LD : Nat → Int} {LE : Nat → List zb_EF} {R TK WK : Nat → Nat → Int} {s : sv_S}
def zb_X1 (N : Nat) (A B : Nat → Nat) (M : Nat → Int) (O : Nat → Nat) (K : Nat) (LO LD : Nat → Int) (LE : Nat → List zb_EF) (td Q : Nat) (R : Nat → Nat → Int) (T : Nat) (TK : Nat → Nat → Int) (W : Nat) (WK : Nat → Nat → Int) (Z : Nat) (ZK : Nat → Nat) (s : sv_S) : Prop := zb_MW N A B M O K LO LD LE td Q R T TK W WK Z ZK ∧ (zb_RM N A B M O s ∧ zb_LM K LO LD LE s ∧ True) ∧ zb_MX N A B M O K LO LD LE td Q R T TK W WK Z ZK s ∧ True
def zb_M1 (N : Nat) (A B : Nat → Nat) (M : Nat → Int) (O : Nat → Nat) (K : Nat) (LO LD : Nat → Int) (LE : Nat → List zb_EF) (td Q : Nat) (R : Nat → Nat → Int) (T : Nat) (TK : Nat → Nat → Int) (W : Nat) (WK : Nat → Nat → Int) (Z : Nat) (ZK : Nat → Nat) (s : sv_S) : Prop := zb_MW N A B M O K LO LD LE td Q R T TK W WK Z ZK ∧ zb_MM N A B M O K LO LD LE td Q R T TK W WK Z ZK s ∧ True
theorem zb_X_X {L : List Nat} {u : sv_S} (h : zb_X1 N A B M O K LO LD LE td Q R T TK W WK Z ZK s) (hX : zb_MX N A B M O K LO LD LE td Q R T TK W WK Z ZK u) (hf : zb_fx L s u) (hL : (zb_PM ++ zb_PO1).all (fun x => !L.contains x) = true) : zb_X1 N A B M O K LO LD LE td Q R T TK W WK Z ZK u := by
  have fv : zb_fr L s (u.1, s.2) := ⟨hf.1, rfl⟩
  have h1 := zb_RM_fr h.2.1.1 fv (zb_all_sub hL (by decide))
  have h2 := zb_LM_fr h.2.1.2.1 fv (zb_all_sub hL (by decide))
  refine ⟨h.1, ⟨?_, ?_, trivial⟩, hX, trivial⟩
  · unfold zb_RM at h1 ⊢; exact h1
  · unfold zb_LM at h2 ⊢; exact h2
theorem zb_M_M {L : List Nat} {u : sv_S} (h : zb_M1 N A B M O K LO LD LE td Q R T TK W WK Z ZK s) (hf : zb_fr L s u) (hL : (zb_PM ++ zb_PX ++ zb_PO1).all (fun x => !L.contains x) = true) (h25 : L.all (fun x => decide (25 ≤ x)) = true) : zb_M1 N A B M O K LO LD LE td Q R T TK W WK Z ZK u := ⟨h.1, zb_MM_fr h.2.1 hf (zb_all_sub hL (by decide)), trivial⟩
theorem zb_x_fJ (h : zb_X1 N A B M O K LO LD LE td Q R T TK W WK Z ZK s) {g : Nat} {tons d : Int} (ht : 1 ≤ tons) (ht9 : tons ≤ 99) : ∀ r, r < Q → -1 ≤ zb_fee N A B M O K LO LD LE (R r) (R r 5) g tons d ∧ zb_fee N A B M O K LO LD LE (R r) (R r 5) g tons d ≤ 4000000 := by
  intro r hr
  have rk := h.1.2.2.1 r hr
  have p := rk.2.2.2.2.2.1
  exact zb_fee_rg2 (zb_RM_RL h.2.1.1) rk p.1 p.2.1 p.2.2 ht ht9 (zb_vJ h.2.1.2.1 d)
theorem zb_x_carry (h : zb_X1 N A B M O K LO LD LE td Q R T TK W WK Z ZK s) {g b : Nat} {tons d : Int} (hg : g < 20) (ht : 1 ≤ tons) (ht9 : tons ≤ 99) (hd : 0 ≤ d) (hd9 : d ≤ 9999) : zb_W (F_Ca_price (zb_n g) (zb_i tons) (zb_i d) s) (fun u => zb_X1 N A B M O K LO LD LE td Q R T TK W WK Z ZK u ∧ zb_fx zb_ZXc s u ∧ zb_PC Q (fun r => zb_fee N A B M O K LO LD LE (R r) (R r 5) g tons d) u) := by
  refine zb_Wmono (zb_price h.1 (zb_RM_RL h.2.1.1) h.2.1.2.1 h.2.2.1 hg ht ht9 hd hd9) (fun u hu => ?_)
  have f1 : zb_fx zb_ZXc s u := zb_fx_mono hu.1 (by decide)
  exact ⟨zb_X_X h hu.2.1 f1 (by decide), f1, hu.2.2⟩
theorem zb_x_reach (h : zb_X1 N A B M O K LO LD LE td Q R T TK W WK Z ZK s) {f : Nat → Int} {b : Nat} (hf : ∀ r, r < Q → f r ≤ 4000000) (hP : zb_PC Q f s) (hb : b < 16) : zb_W (F_Ca_reach (zb_n b) s) (fun u => zb_X1 N A B M O K LO LD LE td Q R T TK W WK Z ZK u ∧ zb_fr [162, 159005] s u ∧ zb_PC Q f u ∧ ∃ L, zb_RW f (fun r => (R r 3).toNat) (fun r => (R r 4).toNat) Q b L u) := by
  refine zb_Wmono (zb_reach hf (zb_MX_RC h.1 h.2.2.1) hP hb) (fun u hu => ?_)
  refine ⟨zb_X_X h (zb_MX_fr h.1.2.1 h.2.2.1 hu.1 (by decide) (by decide)) (zb_fr_fx hu.1) (by decide), hu.1, zb_PC_fr hP hu.1 (by decide), hu.2⟩
theorem zb_x_isWorth (h : zb_X1 N A B M O K LO LD LE td Q R T TK W WK Z ZK s) {f : Nat → Int} (hf : ∀ r, r < Q → f r ≤ 4000000) (hP : zb_PC Q f s) {w : Nat} (hw : w < W) : zb_W (F_Wa_isWorth (zb_n w) s) (fun r => r.1 = zb_b (zb_wo f R WK Q w) ∧ zb_X1 N A B M O K LO LD LE td Q R T TK W WK Z ZK r.2 ∧ zb_fr [162, 159005] s r.2 ∧ zb_PC Q f r.2 ∧ ∃ L, zb_RW f (fun r => (R r 3).toNat) (fun r => (R r 4).toNat) Q (WK w 1).toNat L r.2) := by
  have hW20 := h.1.2.2.2.2.2.1
  obtain ⟨a1, a2, a3, a4, a5, a6⟩ := h.1.2.2.2.2.2.2.1 w hw
  have iw : sv_ib (zb_n w) 20 = true := by rw [zb_ib_n (by omega)]; omega
  have row := h.2.2.1.2.2.2.2.2.2.1.2 w hw
  unfold F_Wa_isWorth
  refine zb_Wpos iw ?_
  rw [zb_n_ix (by omega), show s.1 165 w = zb_n (WK w 1).toNat by rw [← zb_in_n a2.1]; exact row 1 (by omega)]
  refine zb_Wbind2 (zb_x_reach h hf hP (by omega)) (fun u hu => ?_)
  obtain ⟨u1, u2, u3, L, u4⟩ := hu
  refine zb_Wpos iw ?_
  rw [u2.1 164 w rfl, u2.1 167 w rfl, u2.1 168 w rfl, show s.1 164 w = zb_n (WK w 0).toNat by rw [← zb_in_n a1.1]; exact row 0 (by omega), show s.1 167 w = zb_i (WK w 3) from row 3 (by omega), show s.1 168 w = zb_i (WK w 4) from row 4 (by omega), zb_leastFrom u4 (by omega), zb_i_mul]
  refine zb_Wbind (zb_Wsome ?_)
  have mu := zb_Sx_mu (f := f) (Fr := fun r => (R r 3).toNat) (To := fun r => (R r 4).toNat) (Q := Q) (b := (WK w 1).toNat) 8 (WK w 0).toNat
  have pm := zb_mulr (x := 99) (y := 999) (by omega : 0 ≤ WK w 3) a5.2 a6.1 a6.2
  unfold zb_wo
  have e8 : zb_ws8 f R WK Q w = zb_Sx f (fun r => (R r 3).toNat) (fun r => (R r 4).toNat) Q (WK w 1).toNat 8 (WK w 0).toNat := rfl
  rw [← e8] at mu ⊢
  generalize zb_ws8 f R WK Q w = v at *
  by_cases q : v < zb_mu
  · rw [if_pos q]
    unfold zb_mu at q mu
    refine zb_Wneg (zb_ge0' mu.1 (by omega)) (zb_Wpos iw (zb_Wpos iw ?_))
    by_cases q2 : WK w 3 * WK w 4 < v
    · refine zb_Wpos (by rw [zb_i_lt (by omega) (by omega) (by omega) (by omega)]; exact q2) (zb_Wsome ⟨?_, u1, u2, u3, L, u4⟩)
      rw [decide_eq_false (by omega)]; rfl
    · refine zb_Wneg (by rw [zb_i_lt (by omega) (by omega) (by omega) (by omega)]; exact q2) (zb_Wsome ⟨?_, u1, u2, u3, L, u4⟩)
      rw [decide_eq_true (by unfold zb_mu; omega)]; rfl
  · rw [if_neg q]
    refine zb_Wpos (by decide) (zb_Wsome ⟨?_, u1, u2, u3, L, u4⟩)
    rw [decide_eq_false (by omega)]; rfl
theorem zb_x_goes (h : zb_X1 N A B M O K LO LD LE td Q R T TK W WK Z ZK s) {w : Nat} {d : Int} (hw : w < W) (hd : 0 ≤ d) (hd9 : d ≤ 9999) : zb_W (F_Wa_goes (zb_n w) (zb_i d) s) (fun r => r.1 = zb_b (zb_wo (zb_wf N A B M O K LO LD LE R WK d w) R WK Q w) ∧ zb_X1 N A B M O K LO LD LE td Q R T TK W WK Z ZK r.2 ∧ zb_fx zb_ZXc s r.2 ∧ zb_PC Q (zb_wf N A B M O K LO LD LE R WK d w) r.2 ∧ ∃ L, zb_RW (zb_wf N A B M O K LO LD LE R WK d w) (fun r => (R r 3).toNat) (fun r => (R r 4).toNat) Q (WK w 1).toNat L r.2) := by
  have hW20 := h.1.2.2.2.2.2.1
  obtain ⟨a1, a2, a3, a4, a5, a6⟩ := h.1.2.2.2.2.2.2.1 w hw
  have iw : sv_ib (zb_n w) 20 = true := by rw [zb_ib_n (by omega)]; omega
  have row := h.2.2.1.2.2.2.2.2.2.1.2 w hw
  unfold F_Wa_goes
  refine zb_Wpos iw (zb_Wpos iw ?_)
  rw [zb_n_ix (by omega), show s.1 166 w = zb_n (WK w 2).toNat by rw [← zb_in_n a4.1]; exact row 2 (by omega), show s.1 167 w = zb_i (WK w 3) from row 3 (by omega)]
  refine zb_Wbind2 (zb_x_carry (b := 0) h (by omega) a5.1 a5.2 hd hd9) (fun u hu => ?_)
  obtain ⟨u1, u2, u3⟩ := hu
  refine zb_Wbind2 (zb_x_isWorth (f := zb_wf N A B M O K LO LD LE R WK d w) u1 (fun r hr => (zb_x_fJ h (g := (WK w 2).toNat) (d := d) a5.1 a5.2 r hr).2) u3 hw) (fun v hv => ?_)
  obtain ⟨v1, v2, v3, v4, v5⟩ := hv
  refine zb_Wpos (by rw [v1]; exact zb_bl_b) (zb_Wsome ⟨v1, v2, zb_fx_trans u2 (zb_fr_fx (zb_fr_mono v3 (by decide))), v4, v5⟩)
theorem zb_x_sumTaken (h : zb_X1 N A B M O K LO LD LE td Q R T TK W WK Z ZK s) {o d : Int} (ho : -1 ≤ o) (ho5 : o ≤ 5) (hd : 0 ≤ d) (hd9 : d ≤ 9999) : zb_W (F_Wa_sumTaken (zb_i o) (zb_i d) s) (fun r => r.1 = zb_i (zb_tks N A B M O K LO LD LE R WK Q o d W) ∧ zb_X1 N A B M O K LO LD LE td Q R T TK W WK Z ZK r.2 ∧ zb_fx zb_ZXc s r.2) := by
  have hW20 := h.1.2.2.2.2.2.1
  unfold F_Wa_sumTaken
  refine zb_for (fun n w u => F_Wa_sumTaken_b5 n (zb_i o) (zb_i d) (zb_i (zb_tks N A B M O K LO LD LE R WK Q o d w)) (zb_n w) u) W (fun w u => zb_X1 N A B M O K LO LD LE td Q R T TK W WK Z ZK u ∧ zb_fx zb_ZXc s u) ?_ ?_ ss_F 0 s (by omega) (by unfold ss_F; omega) ⟨h, zb_fx_refl _ _⟩
  · intro n u hu
    simp only [F_Wa_sumTaken_b5]
    rw [hu.1.2.2.1.2.2.2.2.2.2.1.1]
    exact zb_Wpos (Int32.le_refl _) (zb_Wsome ⟨rfl, hu.1, hu.2⟩)
  · intro n w u hw hu ih
    obtain ⟨a1, a2, a3, a4, a5, a6⟩ := h.1.2.2.2.2.2.2.1 w hw
    simp only [F_Wa_sumTaken_b5]
    rw [hu.1.2.2.1.2.2.2.2.2.2.1.1]
    refine zb_Wneg (by rw [zb_n_le (by omega) (by omega)]; omega) ?_
    refine zb_Wbind2 (zb_x_goes hu.1 hw hd hd9) (fun v hv => ?_)
    obtain ⟨v1, v2, v3, v4, L, v5⟩ := hv
    have f2 := zb_fx_trans hu.2 v3
    rw [v1]
    have eq : ∀ b, zb_wo (zb_wf N A B M O K LO LD LE R WK d w) R WK Q w = b → zb_tks N A B M O K LO LD LE R WK Q o d (w + 1) = zb_tks N A B M O K LO LD LE R WK Q o d w + zb_tkw N A B M O K LO LD LE R WK Q o d w := fun _ _ => rfl
    cases e : zb_wo (zb_wf N A B M O K LO LD LE R WK d w) R WK Q w with
    | false =>
      refine zb_Wpos rfl ?_
      unfold F_Wa_sumTaken_b42
      refine zb_Wlet ?_
      rw [show zb_n w + (1 : Int32) = zb_n (w + 1) from zb_n_add w 1]
      have := ih v.2 ⟨v2, f2⟩
      have z : zb_tkw N A B M O K LO LD LE R WK Q o d w = 0 := by unfold zb_tkw; rw [e]; rfl
      rw [eq _ e, z, Int.add_zero] at this
      exact this
    | true =>
      refine zb_Wneg (by decide) ?_
      have iw : sv_ib (zb_n w) 20 = true := by rw [zb_ib_n (by omega)]; omega
      refine zb_Wpos iw ?_
      have row := v2.2.2.1.2.2.2.2.2.2.1.2 w hw
      rw [zb_n_ix (by omega), show v.2.1 164 w = zb_n (WK w 0).toNat by rw [← zb_in_n a1.1]; exact row 0 (by omega)]
      have hlt : zb_ws8 (zb_wf N A B M O K LO LD LE R WK d w) R WK Q w < zb_mu := by
        unfold zb_wo at e; rw [decide_eq_true_eq] at e; exact e.1
      refine zb_Wbind2 (zb_takenBy (fun r hr => (zb_x_fJ h (g := (WK w 2).toNat) (d := d) a5.1 a5.2 r hr).2) (zb_MX_RC v2.1 v2.2.2.1) v4 v5 ho ho5 (by omega) hlt) (fun t ht => ?_)
      subst ht
      refine zb_Wlet ?_
      rw [zb_i_add]
      unfold F_Wa_sumTaken_b42
      refine zb_Wlet ?_
      rw [show zb_n w + (1 : Int32) = zb_n (w + 1) from zb_n_add w 1]
      have := ih v.2 ⟨v2, f2⟩
      have z : zb_tkw N A B M O K LO LD LE R WK Q o d w = zb_tb (zb_wf N A B M O K LO LD LE R WK d w) (fun r => (R r 3).toNat) (fun r => (R r 4).toNat) (fun r => (R r 2).toNat) Q (WK w 1).toNat (zb_cm (zb_wf N A B M O K LO LD LE R WK d w) (fun r => (R r 3).toNat) (fun r => (R r 4).toNat) Q (WK w 1).toNat (WK w 0).toNat) (WK w 0).toNat o (zb_cm (zb_wf N A B M O K LO LD LE R WK d w) (fun r => (R r 3).toNat) (fun r => (R r 4).toNat) Q (WK w 1).toNat (WK w 0).toNat) := by unfold zb_tkw; rw [if_pos e]
      rw [eq _ e, z] at this
      exact this
theorem zb_mm_fJ (h : zb_M1 N A B M O K LO LD LE td Q R T TK W WK Z ZK s) {g : Nat} {tons d : Int} (ht : 1 ≤ tons) (ht9 : tons ≤ 99) : ∀ r, r < Q → -1 ≤ zb_fee N A B M O K LO LD LE (R r) (R r 5) g tons d ∧ zb_fee N A B M O K LO LD LE (R r) (R r 5) g tons d ≤ 4000000 := by
  intro r hr
  have rk := h.1.2.2.1 r hr
  have p := rk.2.2.2.2.2.1
  exact zb_fee_rg2 (zb_RM_RL h.2.1.1) rk p.1 p.2.1 p.2.2 ht ht9 (zb_vJ h.2.1.2.1 d)
theorem zb_mm_findCheap (h : zb_M1 N A B M O K LO LD LE td Q R T TK W WK Z ZK s) {d : Int} (hP : zb_PP N A B M O K LO LD LE Q R d s) {a b g : Nat} {tons : Int} (ha : a < 16) (hb : b < 16) (hab : a ≠ b) (hg : g < 20) (ht : 1 ≤ tons) (ht9 : tons ≤ 99) (hd : 0 ≤ d) (hd9 : d ≤ 9999) : zb_W (F_Mo_findCheap (zb_n a) (zb_n b) (zb_n g) (zb_i tons) (zb_i d) s) (fun r => zb_M1 N A B M O K LO LD LE td Q R T TK W WK Z ZK r.2 ∧ zb_PP N A B M O K LO LD LE Q R d r.2 ∧ zb_fr zb_ZF s r.2 ∧ zb_RCM Q (fun r => (R r 3).toNat) (fun r => (R r 4).toNat) (fun r => (R r 2).toNat) (fun r => zb_fee N A B M O K LO LD LE (R r) (R r 5) g tons d) r.2 ∧ ∃ t, zb_CHm (fun r => zb_fee N A B M O K LO LD LE (R r) (R r 5) g tons d) (fun r => (R r 3).toNat) (fun r => (R r 4).toNat) Q b a t r) := by
  have hQ := h.1.2.1
  have fr := zb_mm_fJ h (g := g) (d := d) ht ht9
  unfold F_Mo_findCheap
  refine zb_for (fun n r u => F_Mo_findCheap_b3 n (zb_n a) (zb_n b) (zb_n g) (zb_i tons) (zb_i d) (zb_n r) u) Q (fun r u => zb_fr zb_ZF s u ∧ ∀ q, q < r → u.1 227 q = zb_i (zb_fee N A B M O K LO LD LE (R q) (R q 5) g tons d)) ?_ ?_ ss_F 0 s (by omega) (by unfold ss_F; omega) ⟨zb_fr_refl _ _, fun q hq => absurd hq (by omega)⟩
  · intro n u hu
    have Ju := zb_M_M h hu.1 (by decide) (by decide)
    have RC : zb_RCM Q (fun r => (R r 3).toNat) (fun r => (R r 4).toNat) (fun r => (R r 2).toNat) (fun r => zb_fee N A B M O K LO LD LE (R r) (R r 5) g tons d) u := by
      refine ⟨hQ, Ju.2.1.2.2.2.1.1, fun r hr => ?_⟩
      obtain ⟨h1, h2, h3, h4, _⟩ := h.1.2.2.1 r hr
      rw [zb_fldM Ju.2.1.2.2.2.1 hr (f := 2) (c := 206) (by omega) (by omega) rfl, zb_fldM Ju.2.1.2.2.2.1 hr (f := 3) (c := 207) (by omega) (by omega) rfl, zb_fldM Ju.2.1.2.2.2.1 hr (f := 4) (c := 208) (by omega) (by omega) rfl, zb_in_n h2.1, zb_in_n h3.1, zb_in_n h4.1]
      exact ⟨rfl, rfl, rfl, hu.2 r hr, show (R r 2).toNat < 6 by omega, show (R r 3).toNat < 16 by omega, show (R r 4).toNat < 16 by omega, (fr r hr).1, (fr r hr).2⟩
    simp only [F_Mo_findCheap_b3]
    rw [Ju.2.1.2.2.2.1.1]
    refine zb_Wpos (Int32.le_refl _) ?_
    refine zb_Wbind2 (zb_sumUp RC ha hb hab) (fun v hv => ?_)
    refine zb_Wpos (by rw [hv.2.1]; exact zb_bl_b) (zb_Wsome ?_)
    have f2 : zb_fr zb_ZF s v.2 := zb_fr_trans hu.1 (zb_fr_mono hv.1 (by decide))
    exact ⟨zb_M_M h f2 (by decide) (by decide), zb_PP_fr hP f2 (by decide), f2, zb_RCM_fr RC hv.1 (by decide), u, hv⟩
  · intro n r u hr hu ih
    have Ju := zb_M_M h hu.1 (by decide) (by decide)
    simp only [F_Mo_findCheap_b3]
    rw [Ju.2.1.2.2.2.1.1]
    refine zb_Wneg (by rw [zb_n_le (by omega) (by omega)]; omega) ?_
    rw [zb_chargeOf Ju.1 Ju.2.1 (zb_PP_fr hP hu.1 (by decide)) hr hg ht ht9 hd hd9]
    refine zb_Wbind (zb_Wsome ?_)
    refine zb_Wpos (by first | omega | (simp (disch := omega) only [zb_lit, zb_n_add, zb_n_mul, zb_n_ix, zb_n_lt, zb_n_le, zb_n_eq, zb_ib_n] <;> omega)) ?_
    refine zb_Wlet (zb_Wlet ?_)
    rw [zb_n_ix (by omega), show zb_n r + (1 : Int32) = zb_n (r + 1) from zb_n_add r 1]
    refine ih _ ⟨zb_fr_set hu.1 rfl, fun q hq => ?_⟩
    by_cases e : q = r
    · subst e; rw [zb_set_eq]
    · rw [zb_set_ne (by omega)]; exact hu.2 q (by omega)
theorem zb_mm_doesShip (h : zb_M1 N A B M O K LO LD LE td Q R T TK W WK Z ZK s) {w : Nat} {d : Int} (hP : zb_PP N A B M O K LO LD LE Q R d s) (hw : w < W) (hd : 0 ≤ d) (hd9 : d ≤ 9999) : zb_W (F_Mo_doesShip (zb_n w) (zb_i d) s) (fun r => r.1 = zb_b (zb_wo (zb_wf N A B M O K LO LD LE R WK d w) R WK Q w) ∧ zb_M1 N A B M O K LO LD LE td Q R T TK W WK Z ZK r.2 ∧ zb_PP N A B M O K LO LD LE Q R d r.2 ∧ zb_fr zb_ZF s r.2 ∧ zb_RCM Q (fun r => (R r 3).toNat) (fun r => (R r 4).toNat) (fun r => (R r 2).toNat) (zb_wf N A B M O K LO LD LE R WK d w) r.2 ∧ (zb_wo (zb_wf N A B M O K LO LD LE R WK d w) R WK Q w = true → r.2.1 187 60 = zb_n (zb_cm (zb_wf N A B M O K LO LD LE R WK d w) (fun r => (R r 3).toNat) (fun r => (R r 4).toNat) Q (WK w 1).toNat (WK w 0).toNat) ∧ ∀ i, i < zb_cm (zb_wf N A B M O K LO LD LE R WK d w) (fun r => (R r 3).toNat) (fun r => (R r 4).toNat) Q (WK w 1).toNat (WK w 0).toNat → r.2.1 229 i = zb_n (zb_ri (zb_wf N A B M O K LO LD LE R WK d w) (fun r => (R r 3).toNat) (fun r => (R r 4).toNat) Q (WK w 1).toNat (zb_cm (zb_wf N A B M O K LO LD LE R WK d w) (fun r => (R r 3).toNat) (fun r => (R r 4).toNat) Q (WK w 1).toNat (WK w 0).toNat) (WK w 0).toNat i))) := by
  have hW20 := h.1.2.2.2.2.2.1
  obtain ⟨a1, a2, a3, a4, a5, a6⟩ := h.1.2.2.2.2.2.2.1 w hw
  have iw : sv_ib (zb_n w) 20 = true := by rw [zb_ib_n (by omega)]; omega
  have row := h.2.1.2.2.2.2.2.1.2 w hw
  unfold F_Mo_doesShip
  refine zb_Wpos iw (zb_Wpos iw (zb_Wpos iw (zb_Wpos iw ?_)))
  rw [zb_n_ix (by omega), show s.1 230 w = zb_n (WK w 0).toNat by rw [← zb_in_n a1.1]; exact row 0 (by omega), show s.1 231 w = zb_n (WK w 1).toNat by rw [← zb_in_n a2.1]; exact row 1 (by omega), show s.1 232 w = zb_n (WK w 2).toNat by rw [← zb_in_n a4.1]; exact row 2 (by omega), show s.1 233 w = zb_i (WK w 3) from row 3 (by omega)]
  refine zb_Wbind2 (zb_mm_findCheap h hP (by omega) (by omega) (by omega) (by omega) a5.1 a5.2 hd hd9) (fun r hr => ?_)
  obtain ⟨r1, r2, r3, r4, t, r5⟩ := hr
  obtain ⟨_, c1, c2⟩ := r5
  have row2 := r1.2.1.2.2.2.2.2.1.2 w hw
  have mu := zb_Sx_mu (f := zb_wf N A B M O K LO LD LE R WK d w) (Fr := fun r => (R r 3).toNat) (To := fun r => (R r 4).toNat) (Q := Q) (b := (WK w 1).toNat) 8 (WK w 0).toNat
  have pm := zb_mulr (x := 99) (y := 999) (by omega : 0 ≤ WK w 3) a5.2 a6.1 a6.2
  have c1' : r.1 = zb_b (decide (zb_ws8 (zb_wf N A B M O K LO LD LE R WK d w) R WK Q w < zb_mu)) := c1
  have c2' : zb_ws8 (zb_wf N A B M O K LO LD LE R WK d w) R WK Q w < zb_mu → r.2.1 187 60 = zb_n (zb_cm (zb_wf N A B M O K LO LD LE R WK d w) (fun r => (R r 3).toNat) (fun r => (R r 4).toNat) Q (WK w 1).toNat (WK w 0).toNat) ∧ r.2.1 187 61 = zb_i (zb_ws8 (zb_wf N A B M O K LO LD LE R WK d w) R WK Q w) ∧ ∀ i, i < zb_cm (zb_wf N A B M O K LO LD LE R WK d w) (fun r => (R r 3).toNat) (fun r => (R r 4).toNat) Q (WK w 1).toNat (WK w 0).toNat → r.2.1 229 i = zb_n (zb_ri (zb_wf N A B M O K LO LD LE R WK d w) (fun r => (R r 3).toNat) (fun r => (R r 4).toNat) Q (WK w 1).toNat (zb_cm (zb_wf N A B M O K LO LD LE R WK d w) (fun r => (R r 3).toNat) (fun r => (R r 4).toNat) Q (WK w 1).toNat (WK w 0).toNat) (WK w 0).toNat i) := c2
  have mu' : 0 ≤ zb_ws8 (zb_wf N A B M O K LO LD LE R WK d w) R WK Q w ∧ zb_ws8 (zb_wf N A B M O K LO LD LE R WK d w) R WK Q w ≤ zb_mu := mu
  have r4' : zb_RCM Q (fun r => (R r 3).toNat) (fun r => (R r 4).toNat) (fun r => (R r 2).toNat) (zb_wf N A B M O K LO LD LE R WK d w) r.2 := r4
  rw [c1']
  unfold zb_wo
  by_cases q : zb_ws8 (zb_wf N A B M O K LO LD LE R WK d w) R WK Q w < zb_mu
  · obtain ⟨d1, d2, d3⟩ := c2' q
    refine zb_Wneg (zb_bT q) (zb_Wpos iw (zb_Wpos iw ?_))
    rw [show r.2.1 233 w = zb_i (WK w 3) from row2 3 (by omega), show r.2.1 234 w = zb_i (WK w 4) from row2 4 (by omega), d2, zb_i_mul]
    unfold zb_mu at q mu'
    by_cases q2 : WK w 3 * WK w 4 < zb_ws8 (zb_wf N A B M O K LO LD LE R WK d w) R WK Q w
    · refine zb_Wpos (by rw [zb_i_lt (by omega) (by omega) (by omega) (by omega)]; exact q2) (zb_Wsome ⟨?_, r1, r2, r3, r4', fun _ => ⟨d1, d3⟩⟩)
      rw [decide_eq_false (by omega)]; rfl
    · refine zb_Wneg (by rw [zb_i_lt (by omega) (by omega) (by omega) (by omega)]; exact q2) (zb_Wsome ⟨?_, r1, r2, r3, r4', fun _ => ⟨d1, d3⟩⟩)
      rw [decide_eq_true (by unfold zb_mu; omega)]; rfl
  · refine zb_Wpos (zb_bF q) (zb_Wsome ⟨?_, r1, r2, r3, r4', fun z => ?_⟩)
    · rw [decide_eq_false (fun z => q z.1)]; rfl
    · rw [decide_eq_true_eq] at z; exact absurd z.1 q
theorem zb_mm_takingsOf (h : zb_M1 N A B M O K LO LD LE td Q R T TK W WK Z ZK s) {o d : Int} (hP : zb_PP N A B M O K LO LD LE Q R d s) (ho : -1 ≤ o) (ho5 : o ≤ 5) (hd : 0 ≤ d) (hd9 : d ≤ 9999) : zb_W (F_Mo_takingsOf (zb_i o) (zb_i d) s) (fun r => r.1 = zb_i (zb_tks N A B M O K LO LD LE R WK Q o d W) ∧ zb_M1 N A B M O K LO LD LE td Q R T TK W WK Z ZK r.2 ∧ zb_PP N A B M O K LO LD LE Q R d r.2 ∧ zb_fr zb_ZF s r.2) := by
  have hW20 := h.1.2.2.2.2.2.1
  have hQ := h.1.2.1
  unfold F_Mo_takingsOf
  refine zb_for (fun n w u => F_Mo_takingsOf_b5 n (zb_i o) (zb_i d) (zb_i (zb_tks N A B M O K LO LD LE R WK Q o d w)) (zb_n w) u) W (fun w u => zb_M1 N A B M O K LO LD LE td Q R T TK W WK Z ZK u ∧ zb_PP N A B M O K LO LD LE Q R d u ∧ zb_fr zb_ZF s u) ?_ ?_ ss_F 0 s (by omega) (by unfold ss_F; omega) ⟨h, hP, zb_fr_refl _ _⟩
  · intro n u hu
    simp only [F_Mo_takingsOf_b5]
    rw [hu.1.2.1.2.2.2.2.2.1.1]
    exact zb_Wpos (Int32.le_refl _) (zb_Wsome ⟨rfl, hu.1, hu.2.1, hu.2.2⟩)
  · intro n w u hw hu ih
    obtain ⟨a1, a2, a3, a4, a5, a6⟩ := h.1.2.2.2.2.2.2.1 w hw
    simp only [F_Mo_takingsOf_b5]
    rw [hu.1.2.1.2.2.2.2.2.1.1]
    refine zb_Wneg (by rw [zb_n_le (by omega) (by omega)]; omega) ?_
    refine zb_Wbind2 (zb_mm_doesShip hu.1 hu.2.1 hw hd hd9) (fun v hv => ?_)
    obtain ⟨v1, v2, v3, v4, v5, v6⟩ := hv
    have f2 := zb_fr_trans hu.2.2 v4
    rw [v1]
    have eq : zb_tks N A B M O K LO LD LE R WK Q o d (w + 1) = zb_tks N A B M O K LO LD LE R WK Q o d w + zb_tkw N A B M O K LO LD LE R WK Q o d w := rfl
    have b84 : ∀ z : Int, z = zb_tks N A B M O K LO LD LE R WK Q o d (w + 1) → zb_W (F_Mo_takingsOf_b84 (F_Mo_takingsOf_b5 n) (zb_i o) (zb_i d) (zb_i z) (zb_n w) v.2) (fun r => r.1 = zb_i (zb_tks N A B M O K LO LD LE R WK Q o d W) ∧ zb_M1 N A B M O K LO LD LE td Q R T TK W WK Z ZK r.2 ∧ zb_PP N A B M O K LO LD LE Q R d r.2 ∧ zb_fr zb_ZF s r.2) := by
      intro z hz
      unfold F_Mo_takingsOf_b84
      refine zb_Wlet ?_
      rw [show zb_n w + (1 : Int32) = zb_n (w + 1) from zb_n_add w 1, hz]
      exact ih v.2 ⟨v2, v3, f2⟩
    cases e : zb_wo (zb_wf N A B M O K LO LD LE R WK d w) R WK Q w with
    | false =>
      refine zb_Wpos rfl (b84 _ ?_)
      have z : zb_tkw N A B M O K LO LD LE R WK Q o d w = 0 := by unfold zb_tkw; rw [e]; rfl
      rw [eq, z, Int.add_zero]
    | true =>
      refine zb_Wneg (by decide) ?_
      have z : zb_tkw N A B M O K LO LD LE R WK Q o d w = zb_tb (zb_wf N A B M O K LO LD LE R WK d w) (fun r => (R r 3).toNat) (fun r => (R r 4).toNat) (fun r => (R r 2).toNat) Q (WK w 1).toNat (zb_cm (zb_wf N A B M O K LO LD LE R WK d w) (fun r => (R r 3).toNat) (fun r => (R r 4).toNat) Q (WK w 1).toNat (WK w 0).toNat) (WK w 0).toNat o (zb_cm (zb_wf N A B M O K LO LD LE R WK d w) (fun r => (R r 3).toNat) (fun r => (R r 4).toNat) Q (WK w 1).toNat (WK w 0).toNat) := by unfold zb_tkw; rw [if_pos e]
      obtain ⟨w1, w2⟩ := v6 e
      have hlt : zb_Sx (zb_wf N A B M O K LO LD LE R WK d w) (fun r => (R r 3).toNat) (fun r => (R r 4).toNat) Q (WK w 1).toNat 8 (WK w 0).toNat < zb_mu := by
        unfold zb_wo at e; rw [decide_eq_true_eq] at e; exact e.1
      have hj := zb_cm_ju hlt
      have c8 := (zb_cm_ok (f := zb_wf N A B M O K LO LD LE R WK d w) (Fr := fun r => (R r 3).toNat) (To := fun r => (R r 4).toNat) (Q := Q) (b := (WK w 1).toNat) (WK w 0).toNat).1
      rw [z] at eq
      generalize zb_cm (zb_wf N A B M O K LO LD LE R WK d w) (fun r => (R r 3).toNat) (fun r => (R r 4).toNat) Q (WK w 1).toNat (WK w 0).toNat = c at *
      have loop := zb_for0 (Q := fun r => r.1 = zb_i (zb_tks N A B M O K LO LD LE R WK Q o d W) ∧ zb_M1 N A B M O K LO LD LE td Q R T TK W WK Z ZK r.2 ∧ zb_PP N A B M O K LO LD LE Q R d r.2 ∧ zb_fr zb_ZF s r.2) (fun m k => F_Mo_takingsOf_b30 (F_Mo_takingsOf_b5 n) m (zb_i o) (zb_i d) (zb_i (zb_tks N A B M O K LO LD LE R WK Q o d w + zb_tb (zb_wf N A B M O K LO LD LE R WK d w) (fun r => (R r 3).toNat) (fun r => (R r 4).toNat) (fun r => (R r 2).toNat) Q (WK w 1).toNat c (WK w 0).toNat o k)) (zb_n w) (zb_n k) v.2) c (fun _ => True) ?_ ?_ ss_F 0 (by omega) (by unfold ss_F; omega) trivial
      · simp only [zb_tb, Int.add_zero] at loop; exact loop
      · intro m _
        simp only [F_Mo_takingsOf_b30]
        rw [w1]
        exact zb_Wpos (Int32.le_refl _) (b84 _ eq.symm)
      · intro m k hk _ ihk
        have ihk := ihk trivial
        have jk := zb_sq_ju hj k (by omega)
        rw [show c - k = c - k - 1 + 1 by omega] at jk
        have rlt := (zb_r1_ok jk).1
        have er : zb_ri (zb_wf N A B M O K LO LD LE R WK d w) (fun r => (R r 3).toNat) (fun r => (R r 4).toNat) Q (WK w 1).toNat c (WK w 0).toNat k < Q := by
          have : zb_ri (zb_wf N A B M O K LO LD LE R WK d w) (fun r => (R r 3).toNat) (fun r => (R r 4).toNat) Q (WK w 1).toNat c (WK w 0).toNat k = zb_r1 (zb_wf N A B M O K LO LD LE R WK d w) (fun r => (R r 3).toNat) (fun r => (R r 4).toNat) Q (WK w 1).toNat (c - k - 1 + 1) (zb_sq (zb_wf N A B M O K LO LD LE R WK d w) (fun r => (R r 3).toNat) (fun r => (R r 4).toNat) Q (WK w 1).toNat c (WK w 0).toNat k) := by unfold zb_ri; congr 1; omega
          rw [this]; exact rlt
        have e229 := w2 k hk
        simp only [zb_tb] at ihk
        generalize zb_ri (zb_wf N A B M O K LO LD LE R WK d w) (fun r => (R r 3).toNat) (fun r => (R r 4).toNat) Q (WK w 1).toNat c (WK w 0).toNat k = q at *
        obtain ⟨t1, t2, t3, t4, t5, t6, t7, t8, t9⟩ := v5.2.2 q er
        have ik : sv_ib (zb_n k) 8 = true := by rw [zb_ib_n (by omega)]; omega
        have iq : sv_ib (zb_n q) 60 = true := by rw [zb_ib_n (by omega)]; omega
        have b76 : ∀ y : Int, y = (if o = -1 ∨ (((R q 2).toNat : Nat) : Int) = o then zb_wf N A B M O K LO LD LE R WK d w q else 0) → zb_W (F_Mo_takingsOf_b76 (F_Mo_takingsOf_b5 n) (F_Mo_takingsOf_b30 (F_Mo_takingsOf_b5 n) m) (zb_i o) (zb_i d) (zb_n w) (zb_n k) (zb_i (zb_tks N A B M O K LO LD LE R WK Q o d w + zb_tb (zb_wf N A B M O K LO LD LE R WK d w) (fun r => (R r 3).toNat) (fun r => (R r 4).toNat) (fun r => (R r 2).toNat) Q (WK w 1).toNat c (WK w 0).toNat o k)) (zb_i y) v.2) (fun r => r.1 = zb_i (zb_tks N A B M O K LO LD LE R WK Q o d W) ∧ zb_M1 N A B M O K LO LD LE td Q R T TK W WK Z ZK r.2 ∧ zb_PP N A B M O K LO LD LE Q R d r.2 ∧ zb_fr zb_ZF s r.2) := by
          intro y hy
          unfold F_Mo_takingsOf_b76
          refine zb_Wlet (zb_Wlet ?_)
          rw [zb_i_add, show zb_n k + (1 : Int32) = zb_n (k + 1) from zb_n_add k 1, hy, Int.add_assoc]
          exact ihk
        have b60 : (o = -1 ∨ (((R q 2).toNat : Nat) : Int) = o) → zb_W (F_Mo_takingsOf_b60 (F_Mo_takingsOf_b5 n) (F_Mo_takingsOf_b30 (F_Mo_takingsOf_b5 n) m) (zb_i o) (zb_i d) (zb_n w) (zb_n k) (zb_i (zb_tks N A B M O K LO LD LE R WK Q o d w + zb_tb (zb_wf N A B M O K LO LD LE R WK d w) (fun r => (R r 3).toNat) (fun r => (R r 4).toNat) (fun r => (R r 2).toNat) Q (WK w 1).toNat c (WK w 0).toNat o k)) v.2) (fun r => r.1 = zb_i (zb_tks N A B M O K LO LD LE R WK Q o d W) ∧ zb_M1 N A B M O K LO LD LE td Q R T TK W WK Z ZK r.2 ∧ zb_PP N A B M O K LO LD LE Q R d r.2 ∧ zb_fr zb_ZF s r.2) := by
          intro hz
          unfold F_Mo_takingsOf_b60
          refine zb_Wpos ik ?_
          rw [zb_n_ix (by omega), e229]
          refine zb_Wpos iq ?_
          rw [zb_n_ix (by omega), t4]
          exact b76 _ (by rw [if_pos hz])
        simp only [F_Mo_takingsOf_b30]
        rw [w1]
        refine zb_Wneg (by rw [zb_n_le (by omega) (by omega)]; omega) ?_
        by_cases o1 : o = -1
        · exact zb_Wpos (by rw [o1]; decide) (b60 (Or.inl o1))
        · refine zb_Wneg (zb_ge0' (by omega) (by omega)) (zb_Wpos ik ?_)
          rw [zb_n_ix (by omega), e229]
          refine zb_Wpos iq ?_
          rw [zb_n_ix (by omega), t1]
          by_cases o2 : (((R q 2).toNat : Nat) : Int) = o
          · exact zb_Wpos (by rw [zb_n_i, o2]) (b60 (Or.inr o2))
          · refine zb_Wneg (by rw [zb_n_i, zb_i_eq (by omega) (by omega) (by omega) (by omega)]; exact o2) ?_
            have e0 : (0 : Int32) = zb_i 0 := zb_n_i 0
            rw [e0]
            exact b76 0 (by rw [if_neg (by rintro (q | q); exact o1 q; exact o2 q)])
end SID
