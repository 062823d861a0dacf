/-! change: the class's side -/
section CGX
variable {N K td Q T W Z : Nat} {A B O ZK : Nat → Nat} {M LO LD : Nat → Int} {LE : Nat → List zb_EF} {R TK WK : Nat → Nat → Int} {s : sv_S}
variable {x1 x2 x3 : Int32} {rp : Nat → Int} {w S : Nat}
/-- pence by a set of listed rates -/
def zb_pv (R : Nat → Nat → Int) (ZK : Nat → Nat) (rp : Nat → Int) (S z : Nat) : Int := if S.testBit z = true then rp z else R (ZK z) 5
def zb_pnS (R : Nat → Nat → Int) (Z : Nat) (ZK : Nat → Nat) (rp : Nat → Int) (S : Nat) : Nat → Int := zb_pz ZK (zb_pv R ZK rp S) (fun r => R r 5) Z
def zb_fs (N : Nat) (A B : Nat → Nat) (M : Nat → Int) (O : Nat → Nat) (K : Nat) (LO LD : Nat → Int) (LE : Nat → List zb_EF) (td : Nat) (R WK : Nat → Nat → Int) (Z : Nat) (ZK : Nat → Nat) (rp : Nat → Int) (w S r : Nat) : Int := zb_fee N A B M O K LO LD LE (R r) (zb_pnS R Z ZK rp S r) (WK w 2).toNat (WK w 3) td
def zb_tk (N : Nat) (A B : Nat → Nat) (M : Nat → Int) (O : Nat → Nat) (K : Nat) (LO LD : Nat → Int) (LE : Nat → List zb_EF) (td Q : Nat) (R WK : Nat → Nat → Int) (Z : Nat) (ZK : Nat → Nat) (rp : Nat → Int) (S w : Nat) : Int := if zb_wo (zb_fs N A B M O K LO LD LE td R WK Z ZK rp w S) R WK Q w = true then zb_ws8 (zb_fs N A B M O K LO LD LE td R WK Z ZK rp w S) R WK Q w else 0
def zb_rpk (rp : Nat → Int) (Z : Nat) : Prop := ∀ z, z < Z → 0 ≤ rp z ∧ rp z ≤ 9999
theorem zb_pnS_rg (hW : zb_MW N A B M O K LO LD LE td Q R T TK W WK Z ZK) (hp : zb_rpk rp Z) : ∀ r, r < Q → 0 ≤ zb_pnS R Z ZK rp S r ∧ zb_pnS R Z ZK rp S r ≤ 9999 ∧ (R r 1 = 3 → zb_pnS R Z ZK rp S r = R r 5) := by
  intro r hr
  have hd := hW.2.2.2.2.2.2.2.2.2
  have rk := (hW.2.2.1 r hr).2.2.2.2.2.1
  by_cases q : ∃ z, z < Z ∧ ZK z = r
  · obtain ⟨z, hz, rfl⟩ := q
    have e : zb_pnS R Z ZK rp S (ZK z) = zb_pv R ZK rp S z := zb_pz_at hd Z (Nat.le_refl _) hz
    rw [e]
    have := hp z hz
    have nt := (hW.2.2.2.2.2.2.2.2.1 z hz).2.1
    unfold zb_pv
    split
    · exact ⟨this.1, this.2, fun y => absurd y nt⟩
    · exact ⟨rk.1, rk.2.1, fun _ => rfl⟩
  · have e : zb_pnS R Z ZK rp S r = R r 5 := zb_pz_no Z (fun z hz y => q ⟨z, hz, y⟩)
    rw [e]
    exact ⟨rk.1, rk.2.1, fun _ => rfl⟩
theorem zb_fs_rg (h : zb_J1 N A B M O K LO LD LE td Q R T TK W WK Z ZK s) (hp : zb_rpk rp Z) (hw : w < W) : ∀ r, r < Q → -1 ≤ zb_fs N A B M O K LO LD LE td R WK Z ZK rp w S r ∧ zb_fs N A B M O K LO LD LE td R WK Z ZK rp w S r ≤ 4000000 := by
  intro r hr
  obtain ⟨_, _, _, _, a5, _⟩ := h.1.2.2.2.2.2.2.1 w hw
  have rk := h.1.2.2.1 r hr
  have p := zb_pnS_rg (S := S) h.1 hp r hr
  refine zb_fee_rg2 (zb_RM_RL h.2.1.1) rk p.1 p.2.1 (fun z => ?_) a5.1 a5.2 (zb_vJ h.2.1.2.1 td)
  rw [p.2.2 z]; exact rk.2.2.2.2.2.1.2.2 z
/-- the plain fees -/
theorem zb_fs_wf : zb_fs N A B M O K LO LD LE td R WK Z ZK rp w 0 = zb_wf N A B M O K LO LD LE R WK td w := by
  funext r
  unfold zb_fs zb_wf
  have : zb_pnS R Z ZK rp 0 = fun r => R r 5 := zb_pz_self (fun z hz => by unfold zb_pv; rw [Nat.zero_testBit]; rfl)
  rw [this]
theorem zb_fs_no {r : Nat} (h : ∀ z, z < Z → ZK z ≠ r) : zb_fs N A B M O K LO LD LE td R WK Z ZK rp w S r = zb_wf N A B M O K LO LD LE R WK td w r := by
  unfold zb_fs zb_wf
  rw [show zb_pnS R Z ZK rp S r = R r 5 from zb_pz_no Z h]
theorem zb_fs_at (hW : zb_MW N A B M O K LO LD LE td Q R T TK W WK Z ZK) {z : Nat} (hz : z < Z) : zb_fs N A B M O K LO LD LE td R WK Z ZK rp w S (ZK z) = if S.testBit z = true then zb_fee N A B M O K LO LD LE (R (ZK z)) (rp z) (WK w 2).toNat (WK w 3) td else zb_wf N A B M O K LO LD LE R WK td w (ZK z) := by
  unfold zb_fs zb_wf
  rw [show zb_pnS R Z ZK rp S (ZK z) = zb_pv R ZK rp S z from zb_pz_at hW.2.2.2.2.2.2.2.2.2 Z (Nat.le_refl _) hz]
  unfold zb_pv
  by_cases q : S.testBit z = true
  · rw [if_pos q, if_pos q]
  · rw [if_neg q, if_neg q]
theorem zb_fs_sign (h : zb_J1 N A B M O K LO LD LE td Q R T TK W WK Z ZK s) (hp : zb_rpk rp Z) (hw : w < W) : ∀ r, r < Q → (0 ≤ zb_fs N A B M O K LO LD LE td R WK Z ZK rp w S r ↔ 0 ≤ zb_wf N A B M O K LO LD LE R WK td w r) := by
  intro r hr
  obtain ⟨_, _, _, _, a5, _⟩ := h.1.2.2.2.2.2.2.1 w hw
  by_cases q : ∃ z, z < Z ∧ ZK z = r
  · obtain ⟨z, hz, rfl⟩ := q
    have nt := (h.1.2.2.2.2.2.2.2.2.1 z hz).2.1
    have p := zb_pnS_rg (S := S) h.1 hp _ hr
    have rk := (h.1.2.2.1 _ hr).2.2.2.2.2.1
    unfold zb_fs zb_wf
    exact ⟨zb_fee_sign nt p.1 rk.1 a5.1 (zb_vJ h.2.1.2.1 td), zb_fee_sign nt rk.1 p.1 a5.1 (zb_vJ h.2.1.2.1 td)⟩
  · rw [zb_fs_no (fun z hz y => q ⟨z, hz, y⟩)]
/-- a set that changes nothing more -/
theorem zb_fs_felt (hW : zb_MW N A B M O K LO LD LE td Q R T TK W WK Z ZK) {ch : Nat} (hc : ∀ z, z < Z → (ch.testBit z = false → zb_wf N A B M O K LO LD LE R WK td w (ZK z) = zb_fee N A B M O K LO LD LE (R (ZK z)) (rp z) (WK w 2).toNat (WK w 3) td)) : zb_fs N A B M O K LO LD LE td R WK Z ZK rp w (S &&& ch) = zb_fs N A B M O K LO LD LE td R WK Z ZK rp w S := by
  funext r
  by_cases q : ∃ z, z < Z ∧ ZK z = r
  · obtain ⟨z, hz, rfl⟩ := q
    rw [zb_fs_at hW hz, zb_fs_at hW hz, Nat.testBit_and]
    cases e : ch.testBit z with
    | true => rw [Bool.and_true]
    | false =>
      rw [Bool.and_false, if_neg (by decide), hc z hz e]
      split <;> rfl
  · rw [zb_fs_no (fun z hz y => q ⟨z, hz, y⟩), zb_fs_no (fun z hz y => q ⟨z, hz, y⟩)]
/-- fees of rates that aren't listed, and who serves -/
def zb_PB (Q Z : Nat) (ZK : Nat → Nat) (f : Nat → Int) (s : sv_S) : Prop := (∀ r, r < Q → (∀ z, z < Z → ZK z ≠ r) → s.1 160 r = zb_i (f r)) ∧ s.1 159 4 = zb_n (zb_ct f Q) ∧ ∀ r, r < Q → 0 ≤ f r → s.1 161 (zb_ct f r) = zb_n r
/-- what the listed rates charge, plain and raised -/
def zb_PL (N : Nat) (A B : Nat → Nat) (M : Nat → Int) (O : Nat → Nat) (K : Nat) (LO LD : Nat → Int) (LE : Nat → List zb_EF) (td : Nat) (R WK : Nat → Nat → Int) (Z : Nat) (ZK : Nat → Nat) (rp : Nat → Int) (w : Nat) (s : sv_S) : Prop := ∀ z, z < Z → s.1 171 z = zb_i (zb_wf N A B M O K LO LD LE R WK td w (ZK z)) ∧ s.1 172 z = zb_i (zb_fee N A B M O K LO LD LE (R (ZK z)) (rp z) (WK w 2).toNat (WK w 3) td)
theorem zb_takenIf (h : zb_J1 N A B M O K LO LD LE td Q R T TK W WK Z ZK s) (hp : zb_rpk rp Z) (hw : w < W) (hS : S < 1024) (hB : zb_PB Q Z ZK (zb_wf N A B M O K LO LD LE R WK td w) s) (hPL : zb_PL N A B M O K LO LD LE td R WK Z ZK rp w s) : zb_W (F_Wa_takenIfRaised (zb_n w) (zb_n S) s) (fun q => q.1 = zb_i (zb_tk N A B M O K LO LD LE td Q R WK Z ZK rp S w) ∧ zb_J1 N A B M O K LO LD LE td Q R T TK W WK Z ZK q.2 ∧ zb_fr [160, 162, 159005] s q.2 ∧ zb_PB Q Z ZK (zb_wf N A B M O K LO LD LE R WK td w) q.2) := by
  have hW := h.1
  have hQ := hW.2.1
  have Z10 := hW.2.2.2.2.2.2.2.1
  have W20 := hW.2.2.2.2.2.1
  have hd := hW.2.2.2.2.2.2.2.2.2
  have fr := zb_fs_rg (S := S) h hp hw
  have sg := zb_fs_sign (S := S) h hp hw
  have ctE := zb_ct_congr sg
  unfold F_Wa_takenIfRaised
  refine zb_for (fun f z u => F_Wa_takenIfRaised_b2 f (zb_n w) (zb_n S) (zb_n z) u) Z (fun z u => zb_fr [160] s u ∧ (∀ r, r < Q → (∀ y, y < Z → ZK y ≠ r) → u.1 160 r = zb_i (zb_wf N A B M O K LO LD LE R WK td w r)) ∧ ∀ y, y < z → u.1 160 (ZK y) = zb_i (zb_fs N A B M O K LO LD LE td R WK Z ZK rp w S (ZK y))) ?_ ?_ ss_F 0 s (by omega) (by unfold ss_F; omega) ⟨zb_fr_refl _ _, hB.1, fun y hy => absurd hy (by omega)⟩
  · intro f u hu
    obtain ⟨u1, u2, u3⟩ := hu
    have Xu := zb_MX_fr hQ h.2.2.1 u1 (by decide) (by decide)
    have Ju := zb_J_X h Xu (zb_fr_fx u1) (by decide)
    have PCu : zb_PC Q (zb_fs N A B M O K LO LD LE td R WK Z ZK rp w S) u := by
      refine ⟨fun r hr => ?_, ?_, fun r hr q => ?_⟩
      · by_cases q : ∃ z, z < Z ∧ ZK z = r
        · obtain ⟨z, hz, rfl⟩ := q; exact u3 z hz
        · rw [u2 r hr (fun z hz y => q ⟨z, hz, y⟩), zb_fs_no (fun z hz y => q ⟨z, hz, y⟩)]
      · rw [u1.1 159 4 rfl, hB.2.1, ctE Q (Nat.le_refl _)]
      · rw [u1.1 161 _ rfl, ctE r (by omega)]; exact hB.2.2 r hr ((sg r hr).mp q)
    simp only [F_Wa_takenIfRaised_b2]
    rw [Xu.2.2.2.2.2.2.2.1]
    refine zb_Wpos (Int32.le_refl _) ?_
    refine zb_Wbind2 (zb_isWorth (f := zb_fs N A B M O K LO LD LE td R WK Z ZK rp w S) Ju (fun r hr => (fr r hr).2) PCu hw) (fun v hv => ?_)
    obtain ⟨v1, v2, v3, v4, L, v5⟩ := hv
    have fv : zb_fr [160, 162, 159005] s v.2 := zb_fr_trans (zb_fr_mono u1 (by decide)) (zb_fr_mono v3 (by decide))
    have PBv : zb_PB Q Z ZK (zb_wf N A B M O K LO LD LE R WK td w) v.2 := by
      refine ⟨fun r hr hn => ?_, ?_, fun r hr q => ?_⟩
      · rw [v4.1 r hr, zb_fs_no hn]
      · rw [v4.2.1, ctE Q (Nat.le_refl _)]
      · have := v4.2.2 r hr ((sg r hr).mpr q)
        rw [ctE r (by omega)] at this; exact this
    rw [v1]
    unfold zb_tk
    cases e : zb_wo (zb_fs N A B M O K LO LD LE td R WK Z ZK rp w S) R WK Q w with
    | false => exact zb_Wpos rfl (zb_Wsome ⟨by rw [if_neg (by decide)]; exact zb_n_i 0, v2, fv, PBv⟩)
    | true =>
      obtain ⟨a1, a2, a3, a4, a5, a6⟩ := hW.2.2.2.2.2.2.1 w hw
      refine zb_Wneg (by decide) (zb_Wpos (by rw [zb_ib_n (by omega)]; omega) ?_)
      have row := v2.2.2.1.2.2.2.2.2.2.1.2 w hw
      have lt : zb_ws8 (zb_fs N A B M O K LO LD LE td R WK Z ZK rp w S) R WK Q w < zb_mu := by unfold zb_wo at e; rw [decide_eq_true_eq] at e; exact e.1
      rw [zb_n_ix (by omega), show v.2.1 164 w = zb_n (WK w 0).toNat by rw [← zb_in_n a1.1]; exact row 0 (by omega), zb_leastFrom v5 (by omega)]
      refine zb_Wbind (zb_Wsome (zb_Wsome ⟨?_, v2, fv, PBv⟩))
      rw [if_pos rfl]
      unfold zb_ws8 at lt ⊢
      dsimp only
      rw [if_pos lt]
  · intro f z u hz hu ih
    obtain ⟨u1, u2, u3⟩ := hu
    have Xu := zb_MX_fr hQ h.2.2.1 u1 (by decide) (by decide)
    have iz : sv_ib (zb_n z) 10 = true := by rw [zb_ib_n (by omega)]; omega
    obtain ⟨k1, k2, k3⟩ := hW.2.2.2.2.2.2.2.2.1 z hz
    have e169 : u.1 169 z = zb_n (ZK z) := Xu.2.2.2.2.2.2.2.2 z hz
    have pl := hPL z hz
    have e171 := (u1.1 171 z rfl).trans pl.1
    have e172 := (u1.1 172 z rfl).trans pl.2
    simp only [F_Wa_takenIfRaised_b2]
    rw [Xu.2.2.2.2.2.2.2.1]
    refine zb_Wneg (by rw [zb_n_le (by omega) (by omega)]; omega) ?_
    have b59 : ∀ y : Int, y = zb_fs N A B M O K LO LD LE td R WK Z ZK rp w S (ZK z) → zb_W (F_Wa_takenIfRaised_b59 (F_Wa_takenIfRaised_b2 f) (zb_n w) (zb_n S) (zb_n z) (zb_n (ZK z)) (zb_i y) u) (fun q => q.1 = zb_i (zb_tk N A B M O K LO LD LE td Q R WK Z ZK rp S w) ∧ zb_J1 N A B M O K LO LD LE td Q R T TK W WK Z ZK q.2 ∧ zb_fr [160, 162, 159005] s q.2 ∧ zb_PB Q Z ZK (zb_wf N A B M O K LO LD LE R WK td w) q.2) := by
      intro y hy
      unfold F_Wa_takenIfRaised_b59
      refine zb_Wpos (by rw [zb_ib_n (by omega)]; omega) (zb_Wlet (zb_Wlet ?_))
      rw [zb_n_ix (by omega), show zb_n z + (1 : Int32) = zb_n (z + 1) from zb_n_add z 1]
      refine ih _ ⟨zb_fr_set u1 rfl, fun r hr hn => ?_, fun j hj => ?_⟩
      · rw [zb_set_ne (fun q => hn z hz q.2.symm)]; exact u2 r hr hn
      · by_cases e : j = z
        · subst e; rw [zb_set_eq, hy]
        · rw [zb_set_ne (fun q => e (hd j z (by omega) hz q.2))]; exact u3 j (by omega)
    have at' := zb_fs_at (N := N) (A := A) (B := B) (M := M) (O := O) (K := K) (LO := LO) (LD := LD) (LE := LE) (td := td) (rp := rp) (w := w) (S := S) hW hz
    simp only [zb_bit hS (show z < 10 by omega)]
    unfold F_Wa_takenIfRaised_b24
    refine zb_Wif (fun q => zb_Wpos iz (zb_Wneg (by decide) (zb_Wpos iz ?_))) (fun q => zb_Wpos iz (zb_Wpos rfl (zb_Wpos iz ?_)))
    · rw [zb_n_ix (by omega), e169, e172]
      exact b59 _ (by rw [at', if_pos q])
    · rw [zb_n_ix (by omega), e169, e171]
      exact b59 _ (by rw [at', if_neg q])
theorem zb_priceListed (h : zb_J1 N A B M O K LO LD LE td Q R T TK W WK Z ZK s) (hp : zb_rpk rp Z) (hw : w < W) (h170 : ∀ z, z < Z → s.1 170 z = zb_i (rp z)) (hP : zb_PC Q (zb_wf N A B M O K LO LD LE R WK td w) s) : zb_W (F_Wa_priceListed (zb_n w) (zb_i td) s) (fun q => (∃ ch, ch < 1024 ∧ q.1 = zb_n ch ∧ ∀ z, z < Z → (ch.testBit z = false → zb_wf N A B M O K LO LD LE R WK td w (ZK z) = zb_fee N A B M O K LO LD LE (R (ZK z)) (rp z) (WK w 2).toNat (WK w 3) td)) ∧ zb_J1 N A B M O K LO LD LE td Q R T TK W WK Z ZK q.2 ∧ zb_fx [81003, 171, 172] s q.2 ∧ zb_PL N A B M O K LO LD LE td R WK Z ZK rp w q.2) := by
  have hW := h.1
  have hQ := hW.2.1
  have Z10 := hW.2.2.2.2.2.2.2.1
  have W20 := hW.2.2.2.2.2.1
  have td9 := hW.1
  obtain ⟨a1, a2, a3, a4, a5, a6⟩ := hW.2.2.2.2.2.2.1 w hw
  have fr0 := zb_fJ h (g := (WK w 2).toNat) (d := td) a5.1 a5.2
  unfold F_Wa_priceListed
  refine zb_while (σ := Nat × Nat × sv_S) (fun f x => F_Wa_priceListed_b5 f (zb_n w) (zb_i td) (zb_n x.2.1) (zb_n x.1) x.2.2) (fun x => x.1 ≤ Z ∧ x.2.1 < 2 ^ x.1 ∧ zb_J1 N A B M O K LO LD LE td Q R T TK W WK Z ZK x.2.2 ∧ zb_fx [81003, 171, 172] s x.2.2 ∧ ∀ z, z < x.1 → (x.2.2.1 171 z = zb_i (zb_wf N A B M O K LO LD LE R WK td w (ZK z)) ∧ x.2.2.1 172 z = zb_i (zb_fee N A B M O K LO LD LE (R (ZK z)) (rp z) (WK w 2).toNat (WK w 3) td)) ∧ (x.2.1.testBit z = false → zb_wf N A B M O K LO LD LE R WK td w (ZK z) = zb_fee N A B M O K LO LD LE (R (ZK z)) (rp z) (WK w 2).toNat (WK w 3) td)) (fun x => Z - x.1) ?_ ss_F (0, 0, s) ⟨by omega, by show 0 < 2 ^ 0; decide, h, zb_fx_refl _ _, fun z hz => absurd hz (by omega)⟩ (by unfold ss_F; show Z - 0 < 8192; omega)
  rintro f ⟨z, ch, u⟩ ⟨x1, x2, x3, x4, x5⟩ ih
  dsimp only at x1 x2 x3 x4 x5 ih ⊢
  simp only [F_Wa_priceListed_b5]
  rw [x3.2.2.1.2.2.2.2.2.2.2.1]
  by_cases zz : z = Z
  · subst zz
    have : (2 : Nat) ^ z ≤ 1024 := Nat.pow_le_pow_right (by omega) Z10
    refine zb_Wpos (Int32.le_refl _) (zb_Wsome ⟨⟨ch, by omega, rfl, fun y hy => (x5 y hy).2⟩, x3, x4, fun y hy => (x5 y hy).1⟩)
  have hz : z < Z := by omega
  obtain ⟨k1, k2, k3⟩ := hW.2.2.2.2.2.2.2.2.1 z hz
  have iz : sv_ib (zb_n z) 10 = true := by rw [zb_ib_n (by omega)]; omega
  have iw : sv_ib (zb_n w) 20 = true := by rw [zb_ib_n (by omega)]; omega
  have e169 : u.1 169 z = zb_n (ZK z) := x3.2.2.1.2.2.2.2.2.2.2.2 z hz
  have row := x3.2.2.1.2.2.2.2.2.2.1.2 w hw
  have rpz := hp z hz
  refine zb_Wneg (by rw [zb_n_le (by omega) (by omega)]; omega) (zb_Wpos iz ?_)
  rw [zb_n_ix (by omega), e169, zb_row (by omega)]
  refine zb_Wbind (zb_Wsome (zb_Wpos (zb_ok91 (by omega)) (zb_Wpos iz (zb_Wpos (by rw [zb_ib_n (by omega)]; omega) (zb_Wpos iz (zb_Wlet (zb_Wpos iz (zb_Wpos iw (zb_Wpos iw ?_)))))))))
  have e160 : u.1 160 (ZK z) = zb_i (zb_wf N A B M O K LO LD LE R WK td w (ZK z)) := (x4.1 160 _ rfl).trans (hP.1 _ k1)
  have e170 : u.1 170 z = zb_i (rp z) := (x4.1 170 z rfl).trans (h170 z hz)
  rw [zb_n_ix (by omega), zb_n_ix (by omega), e160, zb_set_ne (c := 171) (a := 170) (by omega), zb_set_ne (c := 171) (a := 166) (by omega), zb_set_ne (c := 171) (a := 167) (by omega), e170, show u.1 166 w = zb_n (WK w 2).toNat by rw [← zb_in_n a4.1]; exact row 2 (by omega), show u.1 167 w = zb_i (WK w 3) from row 3 (by omega)]
  have f3 : zb_fr [171] u (ss_setI u 171 z (zb_i (zb_wf N A B M O K LO LD LE R WK td w (ZK z)))) := zb_fr_set (zb_fr_refl _ _) rfl
  have X3 := zb_MX_fr hQ x3.2.2.1 f3 (by decide) (by decide)
  have J3 := zb_J_X x3 X3 (zb_fr_fx f3) (by decide)
  refine zb_Wbind2 (zb_fee_X hW (zb_RM_RL J3.2.1.1) J3.2.1.2.1 X3 k1 rpz.1 rpz.2 (by omega) a5.1 a5.2 (by omega) (by omega)) (fun q hq => ?_)
  obtain ⟨q1, q2, q3⟩ := hq
  rw [q1]
  refine zb_Wpos iz (zb_Wlet (zb_Wpos iz (zb_Wpos iz ?_)))
  have f4 : zb_fr [172] q.2 (ss_setI q.2 172 z (zb_i (zb_fee N A B M O K LO LD LE (R (ZK z)) (rp z) (WK w 2).toNat (WK w 3) td))) := zb_fr_set (zb_fr_refl _ _) rfl
  have X4 := zb_MX_fr hQ q2 f4 (by decide) (by decide)
  have fx : zb_fx [81003, 171, 172] u (ss_setI q.2 172 z (zb_i (zb_fee N A B M O K LO LD LE (R (ZK z)) (rp z) (WK w 2).toNat (WK w 3) td))) := zb_fx_trans (zb_fr_fx (zb_fr_mono f3 (by decide))) (zb_fx_trans (zb_fx_mono q3 (by decide)) (zb_fr_fx (zb_fr_mono f4 (by decide))))
  have J4 := zb_J_X x3 X4 fx (by decide)
  have g171 : ∀ y, (ss_setI q.2 172 z (zb_i (zb_fee N A B M O K LO LD LE (R (ZK z)) (rp z) (WK w 2).toNat (WK w 3) td))).1 171 y = if y = z then zb_i (zb_wf N A B M O K LO LD LE R WK td w (ZK z)) else u.1 171 y := fun y => by
    rw [zb_set_ne (by omega), q3.1 171 y rfl]
    by_cases e : y = z
    · subst e; rw [if_pos rfl, zb_set_eq]
    · rw [if_neg e, zb_set_ne (by omega)]
  have g172 : ∀ y, (ss_setI q.2 172 z (zb_i (zb_fee N A B M O K LO LD LE (R (ZK z)) (rp z) (WK w 2).toNat (WK w 3) td))).1 172 y = if y = z then zb_i (zb_fee N A B M O K LO LD LE (R (ZK z)) (rp z) (WK w 2).toNat (WK w 3) td) else u.1 172 y := fun y => by
    by_cases e : y = z
    · subst e; rw [if_pos rfl, zb_set_eq]
    · rw [if_neg e, zb_set_ne (by omega), q3.1 172 y rfl, zb_set_ne (by omega)]
  rw [g171 z, g172 z, if_pos rfl, if_pos rfl]
  generalize hu2 : ss_setI q.2 172 z (zb_i (zb_fee N A B M O K LO LD LE (R (ZK z)) (rp z) (WK w 2).toNat (WK w 3) td)) = u2 at *
  have rk := hW.2.2.1 _ k1
  have r1 := (zb_fs_rg (S := 0) (rp := rp) h hp hw _ k1)
  rw [zb_fs_wf] at r1
  have r2 := zb_fee_rg2 (g := (WK w 2).toNat) (d := td) (zb_RM_RL h.2.1.1) rk rpz.1 rpz.2 (fun y => absurd y k2) a5.1 a5.2 (zb_vJ h.2.1.2.1 td)
  simp only [zb_i_eq (show -2147483648 ≤ zb_wf N A B M O K LO LD LE R WK td w (ZK z) by omega) (show zb_wf N A B M O K LO LD LE R WK td w (ZK z) ≤ 2147483647 by omega) (show -2147483648 ≤ zb_fee N A B M O K LO LD LE (R (ZK z)) (rp z) (WK w 2).toNat (WK w 3) td by omega) (show zb_fee N A B M O K LO LD LE (R (ZK z)) (rp z) (WK w 2).toNat (WK w 3) td ≤ 2147483647 by omega)]
  have pw : (2 : Nat) ^ z ≤ 512 := by
    have := Nat.pow_le_pow_right (n := 2) (by omega) (show z ≤ 9 by omega)
    exact this
  have pw2 : (2 : Nat) ^ (z + 1) = 2 * 2 ^ z := by rw [Nat.pow_succ]; omega
  -- on to the next
  have go : ∀ ch' : Nat, ch' < 2 ^ (z + 1) → (∀ y, y < z → ch'.testBit y = ch.testBit y) → (ch'.testBit z = false → zb_wf N A B M O K LO LD LE R WK td w (ZK z) = zb_fee N A B M O K LO LD LE (R (ZK z)) (rp z) (WK w 2).toNat (WK w 3) td) → zb_W (F_Wa_priceListed_b112 (F_Wa_priceListed_b5 f) (zb_n w) (zb_i td) (zb_n ch') (zb_n z) u2) (fun q => (∃ ch, ch < 1024 ∧ q.1 = zb_n ch ∧ ∀ z, z < Z → (ch.testBit z = false → zb_wf N A B M O K LO LD LE R WK td w (ZK z) = zb_fee N A B M O K LO LD LE (R (ZK z)) (rp z) (WK w 2).toNat (WK w 3) td)) ∧ zb_J1 N A B M O K LO LD LE td Q R T TK W WK Z ZK q.2 ∧ zb_fx [81003, 171, 172] s q.2 ∧ zb_PL N A B M O K LO LD LE td R WK Z ZK rp w q.2) := by
    intro ch' c1 c2 c3
    unfold F_Wa_priceListed_b112
    refine zb_Wlet ?_
    rw [show zb_n z + (1 : Int32) = zb_n (z + 1) from zb_n_add z 1]
    refine ih (z + 1, ch', u2) ⟨hz, c1, J4, zb_fx_trans x4 fx, fun y hy => ?_⟩ (by show Z - (z + 1) < Z - z; omega)
    dsimp only at hy ⊢
    rw [g171 y, g172 y]
    by_cases e : y = z
    · subst e
      rw [if_pos rfl, if_pos rfl]
      exact ⟨⟨rfl, rfl⟩, c3⟩
    · rw [if_neg e, if_neg e, c2 y (by omega)]
      exact x5 y (by omega)
  refine zb_Wif (fun q => go ch (by omega) (fun _ _ => rfl) (fun _ => q)) (fun q => zb_Wlet ?_)
  rw [zb_sh (show z ≤ 10 by omega), zb_n_or]
  refine go (ch ||| 2 ^ z) (Nat.or_lt_two_pow (by omega) (by omega)) (fun y hy => ?_) (fun y => ?_)
  · rw [Nat.testBit_or, Nat.testBit_two_pow_of_ne (by omega), Bool.or_false]
  · rw [Nat.testBit_or, Nat.testBit_two_pow_self, Bool.or_true] at y; cases y
end CGX
