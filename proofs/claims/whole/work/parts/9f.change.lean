/-! change: sets, and the call -/
section CGS
variable {N K td Q T W Z : Nat} {A B O ZK : Nat → Nat} {M LO LD : Nat → Int} {LE : Nat → List zb_EF} {R TK WK : Nat → Nat → Int} {s : sv_S}
variable {x1 x2 x3 : Int32} {rp : Nat → Int} {w S : Nat}
def zb_ZCX : List Nat := [81003, 160, 161, 159004, 162, 159005, 171, 172, 173, 174]
def zb_ZCC : List Nat := 170 :: zb_ZCX
theorem zb_tk_rg (hW : zb_MW N A B M O K LO LD LE td Q R T TK W WK Z ZK) (hw : w < W) : 0 ≤ zb_tk N A B M O K LO LD LE td Q R WK Z ZK rp S w ∧ zb_tk N A B M O K LO LD LE td Q R WK Z ZK rp S w ≤ 98901 := by
  obtain ⟨a1, a2, a3, a4, a5, a6⟩ := hW.2.2.2.2.2.2.1 w hw
  unfold zb_tk
  by_cases e : zb_wo (zb_fs N A B M O K LO LD LE td R WK Z ZK rp w S) R WK Q w = true
  · rw [if_pos e]
    have pm := zb_mulr (x := 99) (y := 999) (by omega : 0 ≤ WK w 3) a5.2 a6.1 a6.2
    unfold zb_wo at e
    rw [decide_eq_true_eq] at e
    have mu := zb_Sx_mu (f := zb_fs N A B M O K LO LD LE td R WK Z ZK rp w S) (Fr := fun r => (R r 3).toNat) (To := fun r => (R r 4).toNat) (Q := Q) (b := (WK w 1).toNat) 8 (WK w 0).toNat
    unfold zb_ws8 at e ⊢
    omega
  · rw [if_neg e]; omega
theorem zb_pow (hW : zb_MW N A B M O K LO LD LE td Q R T TK W WK Z ZK) : 0 < 2 ^ Z ∧ 2 ^ Z ≤ 1024 := by
  have Z10 := hW.2.2.2.2.2.2.2.1
  have := Nat.pow_le_pow_right (n := 2) (by omega) Z10
  exact ⟨Nat.pow_pos (by omega), this⟩
theorem zb_addTaken (h : zb_J1 N A B M O K LO LD LE td Q R T TK W WK Z ZK s) (hp : zb_rpk rp Z) (hw : w < W) (h170 : ∀ z, z < Z → s.1 170 z = zb_i (rp z)) {acc : Nat → Int} (h174 : ∀ S, S < 2 ^ Z → s.1 174 S = zb_i (acc S)) : zb_W (F_Wa_addTakenBySets (zb_n w) (zb_n (2 ^ Z)) (zb_i td) s) (fun u => zb_J1 N A B M O K LO LD LE td Q R T TK W WK Z ZK u ∧ zb_fx zb_ZCX s u ∧ ∀ S, S < 2 ^ Z → u.1 174 S = zb_i (acc S + zb_tk N A B M O K LO LD LE td Q R WK Z ZK rp S w)) := by
  have hW := h.1
  have hQ := hW.2.1
  have td9 := hW.1
  have W20 := hW.2.2.2.2.2.1
  obtain ⟨pz0, pz1⟩ := zb_pow hW
  obtain ⟨a1, a2, a3, a4, a5, a6⟩ := hW.2.2.2.2.2.2.1 w hw
  have iw : sv_ib (zb_n w) 20 = true := by rw [zb_ib_n (by omega)]; omega
  have row := h.2.2.1.2.2.2.2.2.2.1.2 w hw
  unfold F_Wa_addTakenBySets
  refine zb_Wpos iw (zb_Wpos iw ?_)
  rw [zb_n_ix (by omega), show s.1 166 w = zb_n (WK w 2).toNat by rw [← zb_in_n a4.1]; exact row 2 (by omega), show s.1 167 w = zb_i (WK w 3) from row 3 (by omega)]
  refine zb_Wbind2 (zb_carry_X (b := 0) h (by omega) a5.1 a5.2 (by omega) (by omega)) (fun u hu => ?_)
  obtain ⟨u1, u2, u3⟩ := hu
  have u3' : zb_PC Q (zb_wf N A B M O K LO LD LE R WK td w) u := u3
  refine zb_Wbind2 (zb_priceListed u1 hp hw (fun z hz => (u2.1 170 z rfl).trans (h170 z hz)) u3') (fun q hq => ?_)
  obtain ⟨⟨ch, c1, c2, c3⟩, q2, q3, q4⟩ := hq
  have fq : zb_fx zb_ZCX s q.2 := zb_fx_trans (zb_fx_mono u2 (by decide)) (zb_fx_mono q3 (by decide))
  have PBq : zb_PB Q Z ZK (zb_wf N A B M O K LO LD LE R WK td w) q.2 := ⟨fun r hr _ => (q3.1 160 r rfl).trans (u3'.1 r hr), (q3.1 159 4 rfl).trans u3'.2.1, fun r hr z => (q3.1 161 _ rfl).trans (u3'.2.2 r hr z)⟩
  have g174 : ∀ S, S < 2 ^ Z → q.2.1 174 S = zb_i (acc S) := fun S hS => by rw [q3.1 174 S rfl, u2.1 174 S rfl]; exact h174 S hS
  rw [c2]
  refine zb_for (fun f S v => F_Wa_addTakenBySets_b31 f (zb_n w) (zb_n (2 ^ Z)) (zb_n ch) (zb_n S) v) (2 ^ Z) (fun S v => zb_J1 N A B M O K LO LD LE td Q R T TK W WK Z ZK v ∧ zb_fx zb_ZCX s v ∧ zb_PB Q Z ZK (zb_wf N A B M O K LO LD LE R WK td w) v ∧ zb_PL N A B M O K LO LD LE td R WK Z ZK rp w v ∧ (∀ T', T' < S → v.1 173 T' = zb_i (zb_tk N A B M O K LO LD LE td Q R WK Z ZK rp T' w) ∧ v.1 174 T' = zb_i (acc T' + zb_tk N A B M O K LO LD LE td Q R WK Z ZK rp T' w)) ∧ ∀ T', S ≤ T' → T' < 2 ^ Z → v.1 174 T' = zb_i (acc T')) ?_ ?_ ss_F 0 q.2 (by omega) (by unfold ss_F; omega) ⟨q2, fq, PBq, q4, fun T' hT => absurd hT (by omega), fun T' _ hT => g174 T' hT⟩
  · intro f v hv
    simp only [F_Wa_addTakenBySets_b31]
    exact zb_Wpos (Int32.le_refl _) (zb_Wsome ⟨hv.1, hv.2.1, fun S hS => (hv.2.2.2.2.1 S hS).2⟩)
  · intro f S v hS hv ih
    obtain ⟨v1, v2, v3, v4, v5, v6⟩ := hv
    have iS : sv_ib (zb_n S) 1024 = true := by rw [zb_ib_n (by omega)]; omega
    -- a set's takings come in
    have b74 : ∀ y : sv_S, zb_J1 N A B M O K LO LD LE td Q R T TK W WK Z ZK y → zb_fr [160, 162, 159005] v y → zb_PB Q Z ZK (zb_wf N A B M O K LO LD LE R WK td w) y → zb_W (F_Wa_addTakenBySets_b74 (F_Wa_addTakenBySets_b31 f) (zb_n w) (zb_n (2 ^ Z)) (zb_n ch) (zb_n S) (zb_n S) (zb_i (zb_tk N A B M O K LO LD LE td Q R WK Z ZK rp S w)) y) (fun u => zb_J1 N A B M O K LO LD LE td Q R T TK W WK Z ZK u ∧ zb_fx zb_ZCX s u ∧ ∀ S, S < 2 ^ Z → u.1 174 S = zb_i (acc S + zb_tk N A B M O K LO LD LE td Q R WK Z ZK rp S w)) := by
      intro y y1 y2 y3
      unfold F_Wa_addTakenBySets_b74
      refine zb_Wpos iS (zb_Wlet (zb_Wpos iS (zb_Wpos iS (zb_Wpos iS (zb_Wlet (zb_Wlet ?_))))))
      rw [zb_n_ix (by omega), zb_set_eq, zb_set_ne (c := 173) (a := 174) (by omega), y2.1 174 S rfl, v6 S (Nat.le_refl _) hS, zb_i_add, show zb_n S + (1 : Int32) = zb_n (S + 1) from zb_n_add S 1]
      have fs : zb_fr [173, 174] y (ss_setI (ss_setI y 173 S (zb_i (zb_tk N A B M O K LO LD LE td Q R WK Z ZK rp S w))) 174 S (zb_i (acc S + zb_tk N A B M O K LO LD LE td Q R WK Z ZK rp S w))) := zb_fr_set (zb_fr_set (zb_fr_refl _ _) rfl) rfl
      have Xs := zb_MX_fr hQ y1.2.2.1 fs (by decide) (by decide)
      refine ih _ ⟨zb_J_X y1 Xs (zb_fr_fx fs) (by decide), zb_fx_trans v2 (zb_fx_trans (zb_fr_fx (zb_fr_mono y2 (by decide))) (zb_fr_fx (zb_fr_mono fs (by decide)))), ?_, fun z hz => ?_, fun T' hT => ?_, fun T' h1 h2 => ?_⟩
      · exact ⟨fun r hr hn => (fs.1 160 r rfl).trans (y3.1 r hr hn), (fs.1 159 4 rfl).trans y3.2.1, fun r hr z => (fs.1 161 _ rfl).trans (y3.2.2 r hr z)⟩
      · rw [fs.1 171 z rfl, fs.1 172 z rfl, y2.1 171 z rfl, y2.1 172 z rfl]; exact v4 z hz
      · by_cases e : T' = S
        · subst e; exact ⟨by rw [zb_set_ne (by omega), zb_set_eq], by rw [zb_set_eq]⟩
        · have := v5 T' (by omega)
          exact ⟨by rw [zb_set_ne (by omega), zb_set_ne (by omega), y2.1 173 T' rfl]; exact this.1, by rw [zb_set_ne (by omega), zb_set_ne (by omega), y2.1 174 T' rfl]; exact this.2⟩
      · rw [zb_set_ne (by omega), zb_set_ne (by omega), y2.1 174 T' rfl]; exact v6 T' (by omega) h2
    simp only [F_Wa_addTakenBySets_b31]
    refine zb_Wneg (by rw [zb_n_le (by omega) (by omega)]; omega) (zb_Wlet ?_)
    have le := Nat.and_le_left (n := S) (m := ch)
    rw [zb_n_and]
    have ee : (zb_n (S &&& ch) = zb_n S) = (S &&& ch = S) := zb_n_eq (by omega) (by omega)
    simp only [ee]
    refine zb_Wif (fun e => ?_) (fun e => ?_)
    · refine zb_Wbind2 (zb_takenIf v1 hp hw (by omega) v3 v4) (fun r hr => ?_)
      rw [hr.1]
      exact b74 r.2 hr.2.1 hr.2.2.1 hr.2.2.2
    · refine zb_Wpos (by rw [zb_ib_n (by omega)]; omega) ?_
      have := (v5 (S &&& ch) (by omega)).1
      have et : zb_tk N A B M O K LO LD LE td Q R WK Z ZK rp (S &&& ch) w = zb_tk N A B M O K LO LD LE td Q R WK Z ZK rp S w := by
        unfold zb_tk
        rw [zb_fs_felt hW c3]
      rw [zb_n_ix (by omega), this, et]
      exact b74 v v1 (zb_fr_refl _ _) v3
/-- all that is taken, by a set -/
def zb_tot (N : Nat) (A B : Nat → Nat) (M : Nat → Int) (O : Nat → Nat) (K : Nat) (LO LD : Nat → Int) (LE : Nat → List zb_EF) (td Q : Nat) (R : Nat → Nat → Int) (W : Nat) (WK : Nat → Nat → Int) (Z : Nat) (ZK : Nat → Nat) (rp : Nat → Int) (S : Nat) : Int := zb_sm (fun w => zb_tk N A B M O K LO LD LE td Q R WK Z ZK rp S w) W
theorem zb_tot_rg (hW : zb_MW N A B M O K LO LD LE td Q R T TK W WK Z ZK) : 0 ≤ zb_tot N A B M O K LO LD LE td Q R W WK Z ZK rp S ∧ zb_tot N A B M O K LO LD LE td Q R W WK Z ZK rp S ≤ 1978020 := by
  have W20 := hW.2.2.2.2.2.1
  have a := (zb_sm_pos (f := fun w => zb_tk N A B M O K LO LD LE td Q R WK Z ZK rp S w) W (fun w hw => (zb_tk_rg hW hw).1)).1
  have b := zb_sm_le (f := fun w => zb_tk N A B M O K LO LD LE td Q R WK Z ZK rp S w) (m := 98901) W (fun w hw => (zb_tk_rg hW hw).2)
  unfold zb_tot
  exact ⟨a, by omega⟩
/-- pence of the listed if raised -/
def zb_rps (N : Nat) (A B : Nat → Nat) (M : Nat → Int) (O : Nat → Nat) (K : Nat) (LO LD : Nat → Int) (LE : Nat → List zb_EF) (td : Nat) (R : Nat → Nat → Int) (ZK : Nat → Nat) (z : Nat) : Int := min 9999 (zb_cg N A B M O K LO LD LE (R (ZK z)) td)
theorem zb_rps_rg (hW : zb_MW N A B M O K LO LD LE td Q R T TK W WK Z ZK) (hL : zb_RL N A B M O) (hM : zb_LM K LO LD LE s) : zb_rpk (zb_rps N A B M O K LO LD LE td R ZK) Z ∧ ∀ z, z < Z → 0 ≤ zb_cg N A B M O K LO LD LE (R (ZK z)) td ∧ zb_cg N A B M O K LO LD LE (R (ZK z)) td ≤ 2999700 := by
  have k : ∀ z, z < Z → 0 ≤ zb_cg N A B M O K LO LD LE (R (ZK z)) td ∧ zb_cg N A B M O K LO LD LE (R (ZK z)) td ≤ 2999700 := by
    intro z hz
    obtain ⟨k1, k2, k3⟩ := hW.2.2.2.2.2.2.2.2.1 z hz
    obtain ⟨_, h2, h3, h4, _⟩ := hW.2.2.1 _ k1
    have D := zb_D_rg hL (-1) (a := (R (ZK z) 3).toNat) (b := (R (ZK z) 4).toNat) (by omega) (by omega)
    have v := zb_v_rg hM (R (ZK z) 2) td (10 + (zb_co K LO LD LE (R (ZK z)) td).toNat)
    have m := zb_mulr (x := 3000) (y := 9999) D.1 (D.2.2 k3) v.1 v.2.1
    unfold zb_cg
    rw [if_pos k3]
    omega
  refine ⟨fun z hz => ?_, k⟩
  have := k z hz
  unfold zb_rps
  omega
theorem zb_fewest (h : zb_J1 N A B M O K LO LD LE td Q R T TK W WK Z ZK s) {much : Int} (m0 : 0 ≤ much) (m1 : much ≤ 2147483647) : zb_W (F_Wa_fewestRaised (zb_i much) (zb_i td) s) (fun q => q.1 = zb_i (zb_bst (zb_tot N A B M O K LO LD LE td Q R W WK Z ZK (zb_rps N A B M O K LO LD LE td R ZK)) much (2 ^ Z)) ∧ zb_J1 N A B M O K LO LD LE td Q R T TK W WK Z ZK q.2 ∧ zb_fx zb_ZCC s q.2) := by
  have hW := h.1
  have hQ := hW.2.1
  have td9 := hW.1
  have W20 := hW.2.2.2.2.2.1
  have Z10 := hW.2.2.2.2.2.2.2.1
  have hL := zb_RM_RL h.2.1.1
  obtain ⟨pz0, pz1⟩ := zb_pow hW
  obtain ⟨hp, cgr⟩ := zb_rps_rg hW hL h.2.1.2.1
  have tr := fun S => zb_tot_rg (rp := zb_rps N A B M O K LO LD LE td R ZK) (S := S) hW
  unfold F_Wa_fewestRaised
  refine zb_Wlet ?_
  rw [h.2.2.1.2.2.2.2.2.2.2.1, zb_sh Z10]
  refine zb_Wbind2 (zb_fillI (c := 174) (m := 1024) (x := (0 : Int32)) (fun _ => rfl) (by omega) (fun _ => rfl)) (fun r hr => ?_)
  have Xr := zb_MX_fr hQ h.2.2.1 hr.1 (by decide) (by decide)
  have Jr := zb_J_X h Xr (zb_fr_fx hr.1) (by decide)
  -- the choice
  have b100 : ∀ u : sv_S, zb_J1 N A B M O K LO LD LE td Q R T TK W WK Z ZK u → zb_fx zb_ZCC s u → (∀ S, S < 2 ^ Z → u.1 174 S = zb_i (zb_tot N A B M O K LO LD LE td Q R W WK Z ZK (zb_rps N A B M O K LO LD LE td R ZK) S)) → zb_W (F_Wa_fewestRaised_b100 ss_F (zb_i much) (zb_n (2 ^ Z)) (-1 : Int32) (0 : Int32) u) (fun q => q.1 = zb_i (zb_bst (zb_tot N A B M O K LO LD LE td Q R W WK Z ZK (zb_rps N A B M O K LO LD LE td R ZK)) much (2 ^ Z)) ∧ zb_J1 N A B M O K LO LD LE td Q R T TK W WK Z ZK q.2 ∧ zb_fx zb_ZCC s q.2) := by
    intro u u1 u2 u3
    generalize zb_tot N A B M O K LO LD LE td Q R W WK Z ZK (zb_rps N A B M O K LO LD LE td R ZK) = tot at *
    rw [zb_m1]
    refine zb_for (fun f S v => F_Wa_fewestRaised_b100 f (zb_i much) (zb_n (2 ^ Z)) (zb_i (zb_bst tot much S)) (zb_n S) v) (2 ^ Z) (fun _ v => v = u) ?_ ?_ ss_F 0 u (by omega) (by unfold ss_F; omega) rfl
    · intro f v hv
      subst hv
      simp only [F_Wa_fewestRaised_b100]
      exact zb_Wpos (Int32.le_refl _) (zb_Wsome ⟨rfl, u1, u2⟩)
    · intro f S v hS hv ih
      subst hv
      have ih := ih v rfl
      have br := zb_bst_rg (tot := tot) (much := much) S
      have iS : sv_ib (zb_n S) 1024 = true := by rw [zb_ib_n (by omega)]; omega
      have tS := tr S
      have go : ∀ b : Int, b = zb_bst tot much (S + 1) → zb_W (F_Wa_fewestRaised_b151 (F_Wa_fewestRaised_b100 f) (zb_i much) (zb_n (2 ^ Z)) (zb_i b) (zb_n S) v) (fun q => q.1 = zb_i (zb_bst tot much (2 ^ Z)) ∧ zb_J1 N A B M O K LO LD LE td Q R T TK W WK Z ZK q.2 ∧ zb_fx zb_ZCC s q.2) := by
        intro b hb
        unfold F_Wa_fewestRaised_b151
        refine zb_Wlet ?_
        rw [show zb_n S + (1 : Int32) = zb_n (S + 1) from zb_n_add S 1, hb]
        exact ih
      have lt : (zb_i (tot S) < zb_i much) = (tot S < much) := zb_i_lt (by omega) (by omega) (by omega) (by omega)
      have b129 : ∀ c : Nat, c ≤ 1 → (c = 1 ↔ (zb_bst tot much S < 0 ∨ zb_pop S < zb_pop (zb_bst tot much S).toNat)) → zb_W (F_Wa_fewestRaised_b129 (F_Wa_fewestRaised_b100 f) (zb_i much) (zb_n (2 ^ Z)) (zb_i (zb_bst tot much S)) (zb_n S) (zb_n c) v) (fun q => q.1 = zb_i (zb_bst tot much (2 ^ Z)) ∧ zb_J1 N A B M O K LO LD LE td Q R T TK W WK Z ZK q.2 ∧ zb_fx zb_ZCC s q.2) := by
        intro c hc hcc
        unfold F_Wa_fewestRaised_b129
        refine zb_Wpos iS ?_
        rw [zb_n_ix (by omega), u3 S hS]
        have c0 : (zb_n c = (0 : Int32)) = (c = 0) := zb_n_eq (b := 0) (by omega) (by omega)
        simp only [lt, c0]
        refine zb_Wif (fun q => go _ ?_) (fun q => zb_Wif (fun q2 => go _ ?_) (fun q2 => ?_))
        · simp only [zb_bst]; rw [if_neg (fun z => by omega)]
        · simp only [zb_bst]; rw [if_neg (fun z => by have := hcc.mpr z.1; omega)]
        · rw [zb_n_i S]
          have := go S (by simp only [zb_bst]; rw [if_pos ⟨hcc.mp (by omega), by omega⟩])
          rw [zb_n_i S] at this
          exact this
      simp only [F_Wa_fewestRaised_b100]
      refine zb_Wneg (by rw [zb_n_le (by omega) (by omega)]; omega) ?_
      unfold F_Wa_fewestRaised_b124
      by_cases bn : zb_bst tot much S < 0
      · exact zb_Wpos (by rw [zb_sg1 (by omega) (by omega)]; exact bn) (b129 1 (by omega) ⟨fun _ => Or.inl bn, fun _ => rfl⟩)
      · refine zb_Wneg (by rw [zb_sg1 (by omega) (by omega)]; exact bn) ?_
        have p1 := zb_pop10 (S := S) (by omega)
        have p2 := zb_pop10 (S := (zb_bst tot much S).toNat) (by omega)
        rw [zb_in_n (show 0 ≤ zb_bst tot much S by omega), zb_bc (by omega), zb_bc (by omega)]
        refine zb_Wbind (zb_Wsome (zb_Wbind (zb_Wsome ?_)))
        simp only [zb_n_le (show zb_pop (zb_bst tot much S).toNat ≤ 2147483647 by omega) (show zb_pop S ≤ 2147483647 by omega)]
        rw [← zb_in_n (show 0 ≤ zb_bst tot much S by omega)]
        refine zb_Wif (fun q => b129 0 (by omega) ⟨fun z => absurd z (by omega), fun z => by omega⟩) (fun q => b129 1 (by omega) ⟨fun _ => Or.inr (by omega), fun _ => rfl⟩)
  -- the wants
  have b71 : ∀ u : sv_S, zb_J1 N A B M O K LO LD LE td Q R T TK W WK Z ZK u → zb_fx zb_ZCC s u → (∀ z, z < Z → u.1 170 z = zb_i (zb_rps N A B M O K LO LD LE td R ZK z)) → (∀ S, S < 2 ^ Z → u.1 174 S = zb_i 0) → zb_W (F_Wa_fewestRaised_b71 ss_F (zb_i much) (zb_i td) (zb_n (2 ^ Z)) (0 : Int32) u) (fun q => q.1 = zb_i (zb_bst (zb_tot N A B M O K LO LD LE td Q R W WK Z ZK (zb_rps N A B M O K LO LD LE td R ZK)) much (2 ^ Z)) ∧ zb_J1 N A B M O K LO LD LE td Q R T TK W WK Z ZK q.2 ∧ zb_fx zb_ZCC s q.2) := by
    intro u u1 u2 u3 u4
    refine zb_for (fun f w v => F_Wa_fewestRaised_b71 f (zb_i much) (zb_i td) (zb_n (2 ^ Z)) (zb_n w) v) W (fun w v => zb_J1 N A B M O K LO LD LE td Q R T TK W WK Z ZK v ∧ zb_fx zb_ZCC s v ∧ (∀ z, z < Z → v.1 170 z = zb_i (zb_rps N A B M O K LO LD LE td R ZK z)) ∧ ∀ S, S < 2 ^ Z → v.1 174 S = zb_i (zb_sm (fun w => zb_tk N A B M O K LO LD LE td Q R WK Z ZK (zb_rps N A B M O K LO LD LE td R ZK) S w) w)) ?_ ?_ ss_F 0 u (by omega) (by unfold ss_F; omega) ⟨u1, u2, u3, u4⟩
    · intro f v hv
      simp only [F_Wa_fewestRaised_b71]
      rw [hv.1.2.2.1.2.2.2.2.2.2.1.1]
      exact zb_Wpos (Int32.le_refl _) (b100 v hv.1 hv.2.1 hv.2.2.2)
    · intro f w v hw hv ih
      obtain ⟨v1, v2, v3, v4⟩ := hv
      simp only [F_Wa_fewestRaised_b71]
      rw [v1.2.2.1.2.2.2.2.2.2.1.1]
      refine zb_Wneg (by rw [zb_n_le (by omega) (by omega)]; omega) ?_
      refine zb_Wbind2 (zb_addTaken v1 hp hw v3 v4) (fun y hy => zb_Wlet ?_)
      rw [show zb_n w + (1 : Int32) = zb_n (w + 1) from zb_n_add w 1]
      exact ih y ⟨hy.1, zb_fx_trans v2 (zb_fx_mono hy.2.1 (by decide)), fun z hz => (hy.2.1.1 170 z rfl).trans (v3 z hz), hy.2.2⟩
  refine zb_for (fun f z v => F_Wa_fewestRaised_b18 f (zb_i much) (zb_i td) (zb_n (2 ^ Z)) (zb_n z) v) Z (fun z v => zb_J1 N A B M O K LO LD LE td Q R T TK W WK Z ZK v ∧ zb_fx zb_ZCC s v ∧ (∀ y, y < z → v.1 170 y = zb_i (zb_rps N A B M O K LO LD LE td R ZK y)) ∧ ∀ S, S < 2 ^ Z → v.1 174 S = zb_i 0) ?_ ?_ ss_F 0 r (by omega) (by unfold ss_F; omega) ⟨Jr, zb_fr_fx (zb_fr_mono hr.1 (by decide)), fun y hy => absurd hy (by omega), fun S hS => (hr.2 S (by omega)).trans (zb_n_i 0)⟩
  · intro f v hv
    simp only [F_Wa_fewestRaised_b18]
    rw [hv.1.2.2.1.2.2.2.2.2.2.2.1]
    exact zb_Wpos (Int32.le_refl _) (b71 v hv.1 hv.2.1 hv.2.2.1 hv.2.2.2)
  · intro f z v hz hv ih
    obtain ⟨v1, v2, v3, v4⟩ := hv
    obtain ⟨k1, k2, k3⟩ := hW.2.2.2.2.2.2.2.2.1 z hz
    have iz : sv_ib (zb_n z) 10 = true := by rw [zb_ib_n (by omega)]; omega
    have e169 : v.1 169 z = zb_n (ZK z) := v1.2.2.1.2.2.2.2.2.2.2.2 z hz
    have cz := cgr z hz
    simp only [F_Wa_fewestRaised_b18]
    rw [v1.2.2.1.2.2.2.2.2.2.2.1]
    refine zb_Wneg (by rw [zb_n_le (by omega) (by omega)]; omega) (zb_Wpos iz ?_)
    rw [zb_n_ix (by omega), e169, zb_row (by omega)]
    refine zb_Wbind (zb_Wsome (zb_Wpos (zb_ok91 (by omega)) ?_))
    refine zb_Wbind2 (zb_ceiling_X hW hL v1.2.1.2.1 v1.2.2.1 k1 (d := td) (by omega) (by omega)) (fun q hq => ?_)
    obtain ⟨q1, q2, q3⟩ := hq
    rw [q1, show (9999 : Int32) = zb_i 9999 from zb_n_i 9999, zb_min (by omega) (by omega) (by omega) (by omega)]
    refine zb_Wbind (zb_Wsome (zb_Wpos iz (zb_Wlet (zb_Wlet ?_))))
    rw [show zb_n z + (1 : Int32) = zb_n (z + 1) from zb_n_add z 1]
    have fs : zb_fr [170] q.2 (ss_setI q.2 170 z (zb_i (min 9999 (zb_cg N A B M O K LO LD LE (R (ZK z)) td)))) := zb_fr_set (zb_fr_refl _ _) rfl
    have Xs := zb_MX_fr hQ q2 fs (by decide) (by decide)
    have fx : zb_fx zb_ZCC v (ss_setI q.2 170 z (zb_i (min 9999 (zb_cg N A B M O K LO LD LE (R (ZK z)) td)))) := zb_fx_trans (zb_fx_mono q3 (by decide)) (zb_fr_fx (zb_fr_mono fs (by decide)))
    refine ih _ ⟨zb_J_X v1 Xs fx (by decide), zb_fx_trans v2 fx, fun y hy => ?_, fun S hS => ?_⟩
    · by_cases e : y = z
      · subst e; rw [zb_set_eq]; rfl
      · rw [zb_set_ne (by omega), q3.1 170 y rfl]; exact v3 y (by omega)
    · rw [fs.1 174 S rfl, q3.1 174 S rfl]; exact v4 S hS
end CGS
