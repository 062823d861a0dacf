/-! change: the model's side, and the call -/
section CGM
variable {N K td Q T W Z : Nat} {A B O ZK : Nat → Nat} {M LO LD : Nat → Int} {LE : Nat → List zb_EF} {R TK WK : Nat → Nat → Int} {s : sv_S}
variable {x1 x2 x3 : Int32} {rp pn : Nat → Int} {w S : Nat}
def zb_ZCM : List Nat := [209, 236, 237] ++ zb_ZLR ++ zb_ZP ++ zb_ZF
theorem zb_PP_R5 {d : Int} (h : zb_PP N A B M O K LO LD LE Q R d s) (hp : ∀ r, r < Q → R r 1 = 3 → pn r = R r 5) : zb_PP N A B M O K LO LD LE Q (zb_R5 R pn) d s := by
  refine ⟨h.1, fun r hr h3 => ?_⟩
  have h3' : R r 1 = 3 := h3
  rw [h.2 r hr h3', zb_R5_5, hp r hr h3']
  rfl
theorem zb_wf_R5 : zb_wf N A B M O K LO LD LE (zb_R5 R (zb_pnS R Z ZK rp S)) WK td w = zb_fs N A B M O K LO LD LE td R WK Z ZK rp w S := by
  funext r
  unfold zb_wf zb_fs
  rw [zb_fee_R5, zb_R5_5]
theorem zb_tkw_R5 : zb_tkw N A B M O K LO LD LE (zb_R5 R (zb_pnS R Z ZK rp S)) WK Q (-1) td w = zb_tk N A B M O K LO LD LE td Q R WK Z ZK rp S w := by
  unfold zb_tkw zb_tk
  rw [zb_wf_R5]
  generalize zb_fs N A B M O K LO LD LE td R WK Z ZK rp w S = f
  have e3 : (fun r => (zb_R5 R (zb_pnS R Z ZK rp S) r 3).toNat) = fun r => (R r 3).toNat := rfl
  have e4 : (fun r => (zb_R5 R (zb_pnS R Z ZK rp S) r 4).toNat) = fun r => (R r 4).toNat := rfl
  have ew : zb_wo f (zb_R5 R (zb_pnS R Z ZK rp S)) WK Q w = zb_wo f R WK Q w := by unfold zb_wo zb_ws8; rw [e3, e4]
  rw [ew, e3, e4]
  by_cases q : zb_wo f R WK Q w = true
  · rw [if_pos q, if_pos q]
    unfold zb_wo at q
    rw [decide_eq_true_eq] at q
    have := q.1
    unfold zb_ws8 at this ⊢
    exact zb_tb_all this
  · rw [if_neg q, if_neg q]
theorem zb_tks_R5 : ∀ n, zb_tks N A B M O K LO LD LE (zb_R5 R (zb_pnS R Z ZK rp S)) WK Q (-1) td n = zb_sm (fun w => zb_tk N A B M O K LO LD LE td Q R WK Z ZK rp S w) n
  | 0 => rfl
  | n + 1 => by
    simp only [zb_tks, zb_sm]
    rw [zb_tks_R5 n, zb_tkw_R5]
theorem zb_changeM (hW : zb_MW N A B M O K LO LD LE td Q R T TK W WK Z ZK) (h : zb_MM N A B M O K LO LD LE td Q R T TK W WK Z ZK s) {much : Int} (m0 : 0 ≤ much) (m1 : much ≤ 2147483647) : zb_W (F_Mo_change_b9 ss_F (zb_i much) (0 : Int32) s) (fun q => q.1 = zb_i (if zb_bst (zb_tot N A B M O K LO LD LE td Q R W WK Z ZK (zb_rps N A B M O K LO LD LE td R ZK)) much (2 ^ Z) < 0 then -3 else zb_bst (zb_tot N A B M O K LO LD LE td Q R W WK Z ZK (zb_rps N A B M O K LO LD LE td R ZK)) much (2 ^ Z)) ∧ zb_MM N A B M O K LO LD LE td Q R T TK W WK Z ZK q.2 ∧ zb_fr zb_ZCM s q.2) := by
  have hQ := hW.2.1
  have td9 := hW.1
  have W20 := hW.2.2.2.2.2.1
  have Z10 := hW.2.2.2.2.2.2.2.1
  have hd := hW.2.2.2.2.2.2.2.2.2
  have hL := zb_RM_RL h.1
  obtain ⟨pz0, pz1⟩ := zb_pow hW
  obtain ⟨hp, cgr⟩ := zb_rps_rg hW hL h.2.1
  have tr := fun S => zb_tot_rg (rp := zb_rps N A B M O K LO LD LE td R ZK) (S := S) hW
  have tE : ∀ S, zb_tks N A B M O K LO LD LE (zb_R5 R (zb_pnS R Z ZK (zb_rps N A B M O K LO LD LE td R ZK) S)) WK Q (-1) td W = zb_tot N A B M O K LO LD LE td Q R W WK Z ZK (zb_rps N A B M O K LO LD LE td R ZK) S := fun S => zb_tks_R5 W
  have rE : ∀ z, zb_rps N A B M O K LO LD LE td R ZK z = min 9999 (zb_cg N A B M O K LO LD LE (R (ZK z)) td) := fun _ => rfl
  have pnr := fun S r hr => zb_pnS_rg (S := S) hW hp r hr
  generalize zb_tot N A B M O K LO LD LE td Q R W WK Z ZK (zb_rps N A B M O K LO LD LE td R ZK) = tot at *
  generalize zb_rps N A B M O K LO LD LE td R ZK = rp at *
  have br := fun S => zb_bst_rg (tot := tot) (much := much) S
  -- the pence come back
  have b197 : ∀ (pn : Nat → Int) (v : sv_S), (∀ r, (∀ z, z < Z → ZK z ≠ r) → pn r = R r 5) → zb_MM N A B M O K LO LD LE td Q (zb_R5 R pn) T TK W WK Z ZK v → zb_fr zb_ZCM s v → (∀ z, z < Z → v.1 237 z = zb_i (R (ZK z) 5)) → zb_W (F_Mo_change_b197 ss_F (zb_i (zb_bst tot much (2 ^ Z))) (0 : Int32) v) (fun q => q.1 = zb_i (if zb_bst tot much (2 ^ Z) < 0 then -3 else zb_bst tot much (2 ^ Z)) ∧ zb_MM N A B M O K LO LD LE td Q R T TK W WK Z ZK q.2 ∧ zb_fr zb_ZCM s q.2) := by
    intro pn v v1 v2 v3 v4
    refine zb_for (fun f z u => F_Mo_change_b197 f (zb_i (zb_bst tot much (2 ^ Z))) (zb_n z) u) Z (fun z u => zb_MM N A B M O K LO LD LE td Q (zb_R5 R (zb_pz ZK (fun z => R (ZK z) 5) pn z)) T TK W WK Z ZK u ∧ zb_fr zb_ZCM s u ∧ ∀ y, y < Z → u.1 237 y = zb_i (R (ZK y) 5)) ?_ ?_ ss_F 0 v (by omega) (by unfold ss_F; omega) ⟨v2, v3, v4⟩
    · intro f u hu
      obtain ⟨u1, u2, u3⟩ := hu
      have e : zb_pz ZK (fun z => R (ZK z) 5) pn Z = fun r => R r 5 := by
        rw [zb_pz_base (base' := fun r => R r 5) v1]
        exact zb_pz_self (fun z _ => rfl)
      rw [e, zb_R5_id] at u1
      simp only [F_Mo_change_b197]
      rw [u1.2.2.2.2.2.2.1]
      refine zb_Wpos (Int32.le_refl _) ?_
      have b2 := br (2 ^ Z)
      by_cases q : zb_bst tot much (2 ^ Z) < 0
      · refine zb_Wneg (by rw [zb_sg2 (by omega) (by omega)]; omega) (zb_Wsome ⟨?_, u1, u2⟩)
        rw [if_pos q]; exact zb_m3
      · refine zb_Wpos (by rw [zb_sg2 (by omega) (by omega)]; omega) (zb_Wsome ⟨?_, u1, u2⟩)
        rw [if_neg q]
    · intro f z u hz hu ih
      obtain ⟨u1, u2, u3⟩ := hu
      obtain ⟨k1, k2, k3⟩ := hW.2.2.2.2.2.2.2.2.1 z hz
      have iz : sv_ib (zb_n z) 10 = true := by rw [zb_ib_n (by omega)]; omega
      have e235 : u.1 235 z = zb_n (ZK z) := u1.2.2.2.2.2.2.2 z hz
      simp only [F_Mo_change_b197]
      rw [u1.2.2.2.2.2.2.1]
      refine zb_Wneg (by rw [zb_n_le (by omega) (by omega)]; omega) (zb_Wpos iz (zb_Wpos iz ?_))
      rw [zb_n_ix (by omega), e235]
      refine zb_Wpos (by rw [zb_ib_n (by omega)]; omega) (zb_Wlet (zb_Wlet ?_))
      rw [zb_n_ix (by omega), u3 z hz, show zb_n z + (1 : Int32) = zb_n (z + 1) from zb_n_add z 1]
      have fs : zb_fr [209] u (ss_setI u 209 (ZK z) (zb_i (R (ZK z) 5))) := zb_fr_set (zb_fr_refl _ _) rfl
      exact ih _ ⟨zb_MM_5 (r0 := ZK z) (v := R (ZK z) 5) u1, zb_fr_trans u2 (zb_fr_mono fs (by decide)), fun y hy => (fs.1 237 y rfl).trans (u3 y hy)⟩
  -- all sets
  have b87 : ∀ v : sv_S, zb_MM N A B M O K LO LD LE td Q R T TK W WK Z ZK v → zb_PP N A B M O K LO LD LE Q R td v → zb_fr zb_ZCM s v → (∀ z, z < Z → v.1 236 z = zb_i (rp z) ∧ v.1 237 z = zb_i (R (ZK z) 5)) → zb_W (F_Mo_change_b87 ss_F (zb_i much) (-1 : Int32) (0 : Int32) v) (fun q => q.1 = zb_i (if zb_bst tot much (2 ^ Z) < 0 then -3 else zb_bst tot much (2 ^ Z)) ∧ zb_MM N A B M O K LO LD LE td Q R T TK W WK Z ZK q.2 ∧ zb_fr zb_ZCM s q.2) := by
    intro v v1 v2 v3 v4
    rw [zb_m1]
    refine zb_for (fun f S u => F_Mo_change_b87 f (zb_i much) (zb_i (zb_bst tot much S)) (zb_n S) u) (2 ^ Z) (fun S u => ∃ pn : Nat → Int, (∀ r, (∀ z, z < Z → ZK z ≠ r) → pn r = R r 5) ∧ zb_MM N A B M O K LO LD LE td Q (zb_R5 R pn) T TK W WK Z ZK u ∧ zb_PP N A B M O K LO LD LE Q R td u ∧ zb_fr zb_ZCM s u ∧ ∀ z, z < Z → u.1 236 z = zb_i (rp z) ∧ u.1 237 z = zb_i (R (ZK z) 5)) ?_ ?_ ss_F 0 v (by omega) (by unfold ss_F; omega) ⟨fun r => R r 5, fun _ _ => rfl, by rw [zb_R5_id]; exact v1, v2, v3, v4⟩
    · intro f u hu
      obtain ⟨pn, u1, u2, u3, u4, u5⟩ := hu
      simp only [F_Mo_change_b87]
      rw [u2.2.2.2.2.2.2.1, zb_sh Z10]
      exact zb_Wpos (Int32.le_refl _) (b197 pn u u1 u2 u4 (fun z hz => (u5 z hz).2))
    · intro f S u hS hu ih
      obtain ⟨pn, u1, u2, u3, u4, u5⟩ := hu
      have bS := br S
      have b189 : ∀ (b : Int) (pn : Nat → Int) (y : sv_S), b = zb_bst tot much (S + 1) → (∀ r, (∀ z, z < Z → ZK z ≠ r) → pn r = R r 5) → zb_MM N A B M O K LO LD LE td Q (zb_R5 R pn) T TK W WK Z ZK y → zb_PP N A B M O K LO LD LE Q R td y → zb_fr zb_ZCM s y → (∀ z, z < Z → y.1 236 z = zb_i (rp z) ∧ y.1 237 z = zb_i (R (ZK z) 5)) → zb_W (F_Mo_change_b189 (F_Mo_change_b87 f) (zb_i much) (zb_i b) (zb_n S) y) (fun q => q.1 = zb_i (if zb_bst tot much (2 ^ Z) < 0 then -3 else zb_bst tot much (2 ^ Z)) ∧ zb_MM N A B M O K LO LD LE td Q R T TK W WK Z ZK q.2 ∧ zb_fr zb_ZCM s q.2) := by
        intro b pn y hb y1 y2 y3 y4 y5
        unfold F_Mo_change_b189
        refine zb_Wlet ?_
        rw [show zb_n S + (1 : Int32) = zb_n (S + 1) from zb_n_add S 1, hb]
        exact ih y ⟨pn, y1, y2, y3, y4, y5⟩
      have b117 : (zb_bst tot much S < 0 ∨ zb_pop S < zb_pop (zb_bst tot much S).toNat) → zb_W (F_Mo_change_b117 (F_Mo_change_b87 f) (zb_i much) (zb_i (zb_bst tot much S)) (zb_n S) u) (fun q => q.1 = zb_i (if zb_bst tot much (2 ^ Z) < 0 then -3 else zb_bst tot much (2 ^ Z)) ∧ zb_MM N A B M O K LO LD LE td Q R T TK W WK Z ZK q.2 ∧ zb_fr zb_ZCM s q.2) := by
        intro hc
        unfold F_Mo_change_b117
        refine zb_for (fun g z y => F_Mo_change_b120 (F_Mo_change_b87 f) g (zb_i much) (zb_i (zb_bst tot much S)) (zb_n S) (zb_n z) y) Z (fun z y => zb_MM N A B M O K LO LD LE td Q (zb_R5 R (zb_pz ZK (zb_pv R ZK rp S) pn z)) T TK W WK Z ZK y ∧ zb_PP N A B M O K LO LD LE Q R td y ∧ zb_fr zb_ZCM s y ∧ ∀ z, z < Z → y.1 236 z = zb_i (rp z) ∧ y.1 237 z = zb_i (R (ZK z) 5)) ?_ ?_ ss_F 0 u (by omega) (by unfold ss_F; omega) ⟨u2, u3, u4, u5⟩
        · intro g y hy
          obtain ⟨y1, y2, y3, y4⟩ := hy
          have e : zb_pz ZK (zb_pv R ZK rp S) pn Z = zb_pnS R Z ZK rp S := zb_pz_base u1
          rw [e] at y1
          have W5 : zb_MW N A B M O K LO LD LE td Q (zb_R5 R (zb_pnS R Z ZK rp S)) T TK W WK Z ZK := by
            refine zb_MW_5 hW (fun r hr => ?_)
            have a := pnr S r hr
            refine ⟨a.1, a.2.1, fun z => ?_⟩
            rw [a.2.2 z]
            exact (hW.2.2.1 r hr).2.2.2.2.2.1.2.2 z
          have P5 : zb_PP N A B M O K LO LD LE Q (zb_R5 R (zb_pnS R Z ZK rp S)) td y := zb_PP_R5 y2 (fun r hr z => (pnr S r hr).2.2 z)
          simp only [F_Mo_change_b120]
          rw [y1.2.2.2.2.2.2.1, y1.2.2.1, zb_m1, zb_n_i td]
          refine zb_Wpos (Int32.le_refl _) ?_
          refine zb_Wbind2 (zb_mm_takingsOf (⟨W5, y1, trivial⟩ : zb_M1 N A B M O K LO LD LE td Q (zb_R5 R (zb_pnS R Z ZK rp S)) T TK W WK Z ZK y) P5 (o := -1) (d := td) (by omega) (by omega) (by omega) (by omega)) (fun q hq => ?_)
          obtain ⟨q1, q2, q3, q4⟩ := hq
          have no : ∀ r, (∀ z, z < Z → ZK z ≠ r) → zb_pnS R Z ZK rp S r = R r 5 := fun r hr => zb_pz_no Z hr
          have P6 := zb_PP_fr y2 q4 (by decide)
          have f6 : zb_fr zb_ZCM s q.2 := zb_fr_trans y3 (zb_fr_mono q4 (by decide))
          have r6 : ∀ z, z < Z → q.2.1 236 z = zb_i (rp z) ∧ q.2.1 237 z = zb_i (R (ZK z) 5) := fun z hz => by
            rw [q4.1 236 z rfl, q4.1 237 z rfl]; exact y4 z hz
          rw [q1, tE S]
          have tS := tr S
          have lt : (zb_i (tot S) < zb_i much) = (tot S < much) := zb_i_lt (by omega) (by omega) (by omega) (by omega)
          simp only [lt]
          refine zb_Wif (fun c => b189 _ _ _ ?_ no q2.2.1 P6 f6 r6) (fun c => ?_)
          · simp only [zb_bst]; rw [if_neg (fun z => by omega)]
          · rw [zb_n_i S]
            have := b189 S _ _ (by simp only [zb_bst]; rw [if_pos ⟨hc, by omega⟩]) no q2.2.1 P6 f6 r6
            rw [zb_n_i S] at this
            exact this
        · intro g z y hz hy ihz
          obtain ⟨y1, y2, y3, y4⟩ := hy
          obtain ⟨k1, k2, k3⟩ := hW.2.2.2.2.2.2.2.2.1 z hz
          have iz : sv_ib (zb_n z) 10 = true := by rw [zb_ib_n (by omega)]; omega
          have e235 : y.1 235 z = zb_n (ZK z) := y1.2.2.2.2.2.2.2 z hz
          have b167 : ∀ x : Int, x = zb_pv R ZK rp S z → zb_W (F_Mo_change_b167 (F_Mo_change_b87 f) (F_Mo_change_b120 (F_Mo_change_b87 f) g) (zb_i much) (zb_i (zb_bst tot much S)) (zb_n S) (zb_n z) (zb_n (ZK z)) (zb_i x) y) (fun q => q.1 = zb_i (if zb_bst tot much (2 ^ Z) < 0 then -3 else zb_bst tot much (2 ^ Z)) ∧ zb_MM N A B M O K LO LD LE td Q R T TK W WK Z ZK q.2 ∧ zb_fr zb_ZCM s q.2) := by
            intro x hx
            unfold F_Mo_change_b167
            refine zb_Wpos (by rw [zb_ib_n (by omega)]; omega) (zb_Wlet (zb_Wlet ?_))
            rw [zb_n_ix (by omega), hx, show zb_n z + (1 : Int32) = zb_n (z + 1) from zb_n_add z 1]
            have fs : zb_fr [209] y (ss_setI y 209 (ZK z) (zb_i (zb_pv R ZK rp S z))) := zb_fr_set (zb_fr_refl _ _) rfl
            refine ihz _ ⟨zb_MM_5 (r0 := ZK z) (v := zb_pv R ZK rp S z) y1, zb_PP_fr y2 fs (by decide), zb_fr_trans y3 (zb_fr_mono fs (by decide)), fun z' hz' => ?_⟩
            rw [fs.1 236 z' rfl, fs.1 237 z' rfl]; exact y4 z' hz'
          simp only [F_Mo_change_b120]
          rw [y1.2.2.2.2.2.2.1]
          refine zb_Wneg (by rw [zb_n_le (by omega) (by omega)]; omega) (zb_Wpos iz ?_)
          simp only [zb_bit (show S < 1024 by omega) (show z < 10 by omega)]
          refine zb_Wif (fun c => zb_Wpos iz ?_) (fun c => zb_Wpos iz ?_)
          · rw [zb_n_ix (by omega), e235, (y4 z hz).1]
            exact b167 _ (by unfold zb_pv; rw [if_pos c])
          · rw [zb_n_ix (by omega), e235, (y4 z hz).2]
            exact b167 _ (by unfold zb_pv; rw [if_neg c])
      simp only [F_Mo_change_b87]
      rw [u2.2.2.2.2.2.2.1, zb_sh Z10]
      refine zb_Wneg (by rw [zb_n_le (by omega) (by omega)]; omega) ?_
      by_cases bn : zb_bst tot much S < 0
      · exact zb_Wpos (by rw [zb_sg1 (by omega) (by omega)]; exact bn) (b117 (Or.inl bn))
      · refine zb_Wneg (by rw [zb_sg1 (by omega) (by omega)]; exact bn) ?_
        have p1 := zb_pop10 (S := S) (by omega)
        have p2 := zb_pop10 (S := (zb_bst tot much S).toNat) (by omega)
        rw [zb_ones (show S < 1024 by omega)]
        refine zb_Wbind (zb_Wsome ?_)
        have e2 : F_Mo_ones (zb_i (zb_bst tot much S)) u = some (zb_n (zb_pop (zb_bst tot much S).toNat)) := by
          rw [zb_in_n (show 0 ≤ zb_bst tot much S by omega)]; exact zb_ones (by omega)
        rw [e2]
        refine zb_Wbind (zb_Wsome ?_)
        simp only [zb_n_lt (show zb_pop S ≤ 2147483647 by omega) (show zb_pop (zb_bst tot much S).toNat ≤ 2147483647 by omega)]
        refine zb_Wif (fun q => b117 (Or.inr q)) (fun q => b189 _ pn u ?_ u1 u2 u3 u4 u5)
        simp only [zb_bst]; rw [if_neg (fun z => by omega)]
  -- the listed
  refine zb_for (fun f z v => F_Mo_change_b9 f (zb_i much) (zb_n z) v) Z (fun z v => zb_MM N A B M O K LO LD LE td Q R T TK W WK Z ZK v ∧ zb_fr zb_ZCM s v ∧ ∀ y, y < z → v.1 236 y = zb_i (rp y) ∧ v.1 237 y = zb_i (R (ZK y) 5)) ?_ ?_ ss_F 0 s (by omega) (by unfold ss_F; omega) ⟨h, zb_fr_refl _ _, fun y hy => absurd hy (by omega)⟩
  · intro f v hv
    obtain ⟨v1, v2, v3⟩ := hv
    simp only [F_Mo_change_b9]
    rw [v1.2.2.2.2.2.2.1, v1.2.2.1, zb_n_i td]
    refine zb_Wpos (Int32.le_refl _) ?_
    refine zb_Wbind2 (zb_prepare hW v1 (d := td) (by omega) (by omega)) (fun y hy => ?_)
    refine b87 y (zb_MM_fr v1 hy.1 (by decide)) hy.2 (zb_fr_trans v2 (zb_fr_mono hy.1 (by decide))) (fun z hz => ?_)
    rw [hy.1.1 236 z rfl, hy.1.1 237 z rfl]; exact v3 z hz
  · intro f z v hz hv ih
    obtain ⟨v1, v2, v3⟩ := hv
    obtain ⟨k1, k2, k3⟩ := hW.2.2.2.2.2.2.2.2.1 z hz
    have iz : sv_ib (zb_n z) 10 = true := by rw [zb_ib_n (by omega)]; omega
    have e235 : v.1 235 z = zb_n (ZK z) := v1.2.2.2.2.2.2.2 z hz
    have cz := cgr z hz
    simp only [F_Mo_change_b9]
    rw [v1.2.2.2.2.2.2.1, v1.2.2.1, zb_n_ix (show z ≤ 2147483647 by omega), e235, zb_n_i td]
    refine zb_Wneg (by rw [zb_n_le (by omega) (by omega)]; omega) (zb_Wpos iz ?_)
    refine zb_Wbind2 (zb_mostOf hW v1 k1 (d := td) (by omega) (by omega)) (fun q hq => ?_)
    obtain ⟨q1, q2, q3⟩ := hq
    rw [if_neg (by omega)] at q1
    have b51 : ∀ x : Int, x = rp z → zb_W (F_Mo_change_b51 (F_Mo_change_b9 f) (zb_i much) (zb_n z) (zb_n z) (zb_i x) q.2) (fun q => q.1 = zb_i (if zb_bst tot much (2 ^ Z) < 0 then -3 else zb_bst tot much (2 ^ Z)) ∧ zb_MM N A B M O K LO LD LE td Q R T TK W WK Z ZK q.2 ∧ zb_fr zb_ZCM s q.2) := by
      intro x hx
      unfold F_Mo_change_b51
      refine zb_Wpos iz (zb_Wlet (zb_Wpos iz ?_))
      rw [zb_n_ix (by omega), hx]
      have f1 : zb_fr [236] q.2 (ss_setI q.2 236 z (zb_i (rp z))) := zb_fr_set (zb_fr_refl _ _) rfl
      have M1 := zb_MM_fr q2 f1 (by decide)
      have e1 : (ss_setI q.2 236 z (zb_i (rp z))).1 235 z = zb_n (ZK z) := M1.2.2.2.2.2.2.2 z hz
      have e2 : (ss_setI q.2 236 z (zb_i (rp z))).1 209 (ZK z) = zb_i (R (ZK z) 5) := M1.2.2.2.1.2 (ZK z) k1 5 (by omega) (by omega)
      rw [e1, zb_n_ix (by omega), e2]
      refine zb_Wpos (by rw [zb_ib_n (by omega)]; omega) (zb_Wpos iz (zb_Wlet (zb_Wlet ?_)))
      rw [show zb_n z + (1 : Int32) = zb_n (z + 1) from zb_n_add z 1]
      have f2 : zb_fr [237] (ss_setI q.2 236 z (zb_i (rp z))) (ss_setI (ss_setI q.2 236 z (zb_i (rp z))) 237 z (zb_i (R (ZK z) 5))) := zb_fr_set (zb_fr_refl _ _) rfl
      refine ih _ ⟨zb_MM_fr M1 f2 (by decide), zb_fr_trans v2 (zb_fr_trans (zb_fr_mono q3 (by decide)) (zb_fr_trans (zb_fr_mono f1 (by decide)) (zb_fr_mono f2 (by decide)))), fun y hy => ?_⟩
      by_cases e : y = z
      · subst e; exact ⟨by rw [zb_set_ne (by omega), zb_set_eq], by rw [zb_set_eq]⟩
      · rw [f2.1 236 y rfl, zb_set_ne (by omega), zb_set_ne (by omega), zb_set_ne (by omega), q3.1 236 y rfl, q3.1 237 y rfl]; exact v3 y (by omega)
    rw [q1, show (9999 : Int32) = zb_i 9999 from zb_n_i 9999]
    have le : (zb_i (zb_cg N A B M O K LO LD LE (R (ZK z)) td) ≤ zb_i 9999) = (zb_cg N A B M O K LO LD LE (R (ZK z)) td ≤ 9999) := zb_i_le (by omega) (by omega) (by omega) (by omega)
    simp only [le]
    have rz := rE z
    refine zb_Wif (fun c => b51 _ (by omega)) (fun c => b51 _ (by omega))
theorem zb_c_change (h : zb_J s) : zb_m11 (F_X_change x1 s) (F_Mo_change x1) s := by
  obtain ⟨N, A, B, M, O, K, LO, LD, LE, td, Q, R, T, TK, W, WK, Z, ZK, h⟩ := h
  have hj := zb_J_of h
  have hW := h.1
  have x0 : ((0 : Int32) ≤ x1) = (0 ≤ x1.toInt) := by rw [Int32.le_iff_toInt_le]; rfl
  by_cases q : 0 ≤ x1.toInt
  rotate_left
  · refine zb_m11_no (v := (-2 : Int32)) hj ?_ ?_
    · unfold F_X_change; rw [if_neg (by rw [x0]; exact q)]
    · unfold F_Mo_change; rw [if_neg (by rw [x0]; exact q)]
  have xl := Int32.toInt_lt x1
  obtain ⟨much, em, rfl⟩ : ∃ p : Int, x1.toInt = p ∧ x1 = zb_i p := ⟨_, rfl, zb_i_of x1⟩
  rw [em] at q xl
  obtain ⟨pz0, pz1⟩ := zb_pow hW
  have br := zb_bst_rg (tot := zb_tot N A B M O K LO LD LE td Q R W WK Z ZK (zb_rps N A B M O K LO LD LE td R ZK)) (much := much) (2 ^ Z)
  refine zb_m11_ch (v := zb_i (if zb_bst (zb_tot N A B M O K LO LD LE td Q R W WK Z ZK (zb_rps N A B M O K LO LD LE td R ZK)) much (2 ^ Z) < 0 then -3 else zb_bst (zb_tot N A B M O K LO LD LE td Q R W WK Z ZK (zb_rps N A B M O K LO LD LE td R ZK)) much (2 ^ Z))) (LX := zb_ZCC) (LM := zb_ZCM) h hW ?_ (fun u hu => ?_) (by decide) (by decide) (by decide)
  · unfold F_X_change
    refine zb_Wpos (by rw [x0, em]; exact q) ?_
    rw [h.2.2.1.2.2.2.1, zb_n_i td]
    refine zb_Wbind2 (zb_fewest h q (by omega)) (fun r hr => ?_)
    obtain ⟨r1, r2, r3⟩ := hr
    rw [r1]
    generalize zb_bst (zb_tot N A B M O K LO LD LE td Q R W WK Z ZK (zb_rps N A B M O K LO LD LE td R ZK)) much (2 ^ Z) = b at *
    by_cases c : b < 0
    · refine zb_Wneg (by rw [zb_sg2 (by omega) (by omega)]; omega) (zb_Wsome ⟨?_, r2.2.2.1, r3⟩)
      rw [if_pos c]; exact zb_m3
    · refine zb_Wpos (by rw [zb_sg2 (by omega) (by omega)]; omega) (zb_Wsome ⟨?_, r2.2.2.1, r3⟩)
      rw [if_neg c]
  · unfold F_Mo_change
    refine zb_Wpos (by rw [x0, em]; exact q) ?_
    exact zb_changeM hW hu q (by omega)
end CGM
