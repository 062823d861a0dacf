/-! takings, cheap -/
section TKG
variable {N K td Q T W Z : Nat} {A B O ZK : Nat → Nat} {M LO LD : Nat → Int} {LE : Nat → List zb_EF} {R TK WK : Nat → Nat → Int} {s : sv_S}
variable {x1 x2 x3 x4 x5 x6 x7 : Int32}
/-- what an owner takes of the first wants, or all take -/
def zb_tkw (N : Nat) (A B : Nat → Nat) (M : Nat → Int) (O : Nat → Nat) (K : Nat) (LO LD : Nat → Int) (LE : Nat → List zb_EF) (R WK : Nat → Nat → Int) (Q : Nat) (o d : Int) (w : Nat) : Int :=
  if zb_wo (zb_wf N A B M O K LO LD LE R WK d w) R WK Q w = true then zb_tb (zb_wf N A B M O K LO LD LE R WK d w) (fun r => (R r 3).toNat) (fun r => (R r 4).toNat) (fun r => (R r 2).toNat) Q (WK w 1).toNat (zb_cm (zb_wf N A B M O K LO LD LE R WK d w) (fun r => (R r 3).toNat) (fun r => (R r 4).toNat) Q (WK w 1).toNat (WK w 0).toNat) (WK w 0).toNat o (zb_cm (zb_wf N A B M O K LO LD LE R WK d w) (fun r => (R r 3).toNat) (fun r => (R r 4).toNat) Q (WK w 1).toNat (WK w 0).toNat) else 0
def zb_tks (N : Nat) (A B : Nat → Nat) (M : Nat → Int) (O : Nat → Nat) (K : Nat) (LO LD : Nat → Int) (LE : Nat → List zb_EF) (R WK : Nat → Nat → Int) (Q : Nat) (o d : Int) : Nat → Int
  | 0 => 0
  | w + 1 => zb_tks N A B M O K LO LD LE R WK Q o d w + zb_tkw N A B M O K LO LD LE R WK Q o d w
theorem zb_sumTaken (h : zb_J1 N A B M O K LO LD LE td Q R T TK W WK Z ZK s) {o d : Int} (ho : -1 ≤ o) (ho5 : o ≤ 5) (hd : 0 ≤ d) (hd9 : d ≤ 9999) : zb_W (F_Wa_sumTaken (zb_i o) (zb_i d) s) (fun r => r.1 = zb_i (zb_tks N A B M O K LO LD LE R WK Q o d W) ∧ zb_J1 N A B M O K LO LD LE td Q R T TK W WK Z ZK r.2 ∧ zb_fx zb_ZXc s r.2) := by
  have hW20 := h.1.2.2.2.2.2.1
  unfold F_Wa_sumTaken
  refine zb_for (fun n w u => F_Wa_sumTaken_b5 n (zb_i o) (zb_i d) (zb_i (zb_tks N A B M O K LO LD LE R WK Q o d w)) (zb_n w) u) W (fun w u => zb_J1 N A B M O K LO LD LE td Q R T TK W WK Z ZK u ∧ zb_fx zb_ZXc s u) ?_ ?_ ss_F 0 s (by omega) (by unfold ss_F; omega) ⟨h, zb_fx_refl _ _⟩
  · intro n u hu
    simp only [F_Wa_sumTaken_b5]
    rw [hu.1.2.2.1.2.2.2.2.2.2.1.1]
    exact zb_Wpos (Int32.le_refl _) (zb_Wsome ⟨rfl, hu.1, hu.2⟩)
  · intro n w u hw hu ih
    obtain ⟨a1, a2, a3, a4, a5, a6⟩ := h.1.2.2.2.2.2.2.1 w hw
    simp only [F_Wa_sumTaken_b5]
    rw [hu.1.2.2.1.2.2.2.2.2.2.1.1]
    refine zb_Wneg (by rw [zb_n_le (by omega) (by omega)]; omega) ?_
    refine zb_Wbind2 (zb_goes_X hu.1 hw hd hd9) (fun v hv => ?_)
    obtain ⟨v1, v2, v3, v4, L, v5⟩ := hv
    have f2 := zb_fx_trans hu.2 v3
    rw [v1]
    have eq : ∀ b, zb_wo (zb_wf N A B M O K LO LD LE R WK d w) R WK Q w = b → zb_tks N A B M O K LO LD LE R WK Q o d (w + 1) = zb_tks N A B M O K LO LD LE R WK Q o d w + zb_tkw N A B M O K LO LD LE R WK Q o d w := fun _ _ => rfl
    cases e : zb_wo (zb_wf N A B M O K LO LD LE R WK d w) R WK Q w with
    | false =>
      refine zb_Wpos rfl ?_
      unfold F_Wa_sumTaken_b42
      refine zb_Wlet ?_
      rw [show zb_n w + (1 : Int32) = zb_n (w + 1) from zb_n_add w 1]
      have := ih v.2 ⟨v2, f2⟩
      have z : zb_tkw N A B M O K LO LD LE R WK Q o d w = 0 := by unfold zb_tkw; rw [e]; rfl
      rw [eq _ e, z, Int.add_zero] at this
      exact this
    | true =>
      refine zb_Wneg (by decide) ?_
      have iw : sv_ib (zb_n w) 20 = true := by rw [zb_ib_n (by omega)]; omega
      refine zb_Wpos iw ?_
      have row := v2.2.2.1.2.2.2.2.2.2.1.2 w hw
      rw [zb_n_ix (by omega), show v.2.1 164 w = zb_n (WK w 0).toNat by rw [← zb_in_n a1.1]; exact row 0 (by omega)]
      have hlt : zb_ws8 (zb_wf N A B M O K LO LD LE R WK d w) R WK Q w < zb_mu := by
        unfold zb_wo at e; rw [decide_eq_true_eq] at e; exact e.1
      refine zb_Wbind2 (zb_takenBy (fun r hr => (zb_fJ h (g := (WK w 2).toNat) (d := d) a5.1 a5.2 r hr).2) (zb_MX_RC v2.1 v2.2.2.1) v4 v5 ho ho5 (by omega) hlt) (fun t ht => ?_)
      subst ht
      refine zb_Wlet ?_
      rw [zb_i_add]
      unfold F_Wa_sumTaken_b42
      refine zb_Wlet ?_
      rw [show zb_n w + (1 : Int32) = zb_n (w + 1) from zb_n_add w 1]
      have := ih v.2 ⟨v2, f2⟩
      have z : zb_tkw N A B M O K LO LD LE R WK Q o d w = zb_tb (zb_wf N A B M O K LO LD LE R WK d w) (fun r => (R r 3).toNat) (fun r => (R r 4).toNat) (fun r => (R r 2).toNat) Q (WK w 1).toNat (zb_cm (zb_wf N A B M O K LO LD LE R WK d w) (fun r => (R r 3).toNat) (fun r => (R r 4).toNat) Q (WK w 1).toNat (WK w 0).toNat) (WK w 0).toNat o (zb_cm (zb_wf N A B M O K LO LD LE R WK d w) (fun r => (R r 3).toNat) (fun r => (R r 4).toNat) Q (WK w 1).toNat (WK w 0).toNat) := by unfold zb_tkw; rw [if_pos e]
      rw [eq _ e, z] at this
      exact this
theorem zb_takingsOf (h : zb_J1 N A B M O K LO LD LE td Q R T TK W WK Z ZK s) {o d : Int} (hP : zb_PP N A B M O K LO LD LE Q R d s) (ho : -1 ≤ o) (ho5 : o ≤ 5) (hd : 0 ≤ d) (hd9 : d ≤ 9999) : zb_W (F_Mo_takingsOf (zb_i o) (zb_i d) s) (fun r => r.1 = zb_i (zb_tks N A B M O K LO LD LE R WK Q o d W) ∧ zb_J1 N A B M O K LO LD LE td Q R T TK W WK Z ZK r.2 ∧ zb_PP N A B M O K LO LD LE Q R d r.2 ∧ zb_fr zb_ZF s r.2) := by
  have hW20 := h.1.2.2.2.2.2.1
  have hQ := h.1.2.1
  unfold F_Mo_takingsOf
  refine zb_for (fun n w u => F_Mo_takingsOf_b5 n (zb_i o) (zb_i d) (zb_i (zb_tks N A B M O K LO LD LE R WK Q o d w)) (zb_n w) u) W (fun w u => zb_J1 N A B M O K LO LD LE td Q R T TK W WK Z ZK u ∧ zb_PP N A B M O K LO LD LE Q R d u ∧ zb_fr zb_ZF s u) ?_ ?_ ss_F 0 s (by omega) (by unfold ss_F; omega) ⟨h, hP, zb_fr_refl _ _⟩
  · intro n u hu
    simp only [F_Mo_takingsOf_b5]
    rw [hu.1.2.1.2.2.2.2.2.1.1]
    exact zb_Wpos (Int32.le_refl _) (zb_Wsome ⟨rfl, hu.1, hu.2.1, hu.2.2⟩)
  · intro n w u hw hu ih
    obtain ⟨a1, a2, a3, a4, a5, a6⟩ := h.1.2.2.2.2.2.2.1 w hw
    simp only [F_Mo_takingsOf_b5]
    rw [hu.1.2.1.2.2.2.2.2.1.1]
    refine zb_Wneg (by rw [zb_n_le (by omega) (by omega)]; omega) ?_
    refine zb_Wbind2 (zb_doesShip hu.1 hu.2.1 hw hd hd9) (fun v hv => ?_)
    obtain ⟨v1, v2, v3, v4, v5, v6⟩ := hv
    have f2 := zb_fr_trans hu.2.2 v4
    rw [v1]
    have eq : zb_tks N A B M O K LO LD LE R WK Q o d (w + 1) = zb_tks N A B M O K LO LD LE R WK Q o d w + zb_tkw N A B M O K LO LD LE R WK Q o d w := rfl
    have b84 : ∀ z : Int, z = zb_tks N A B M O K LO LD LE R WK Q o d (w + 1) → zb_W (F_Mo_takingsOf_b84 (F_Mo_takingsOf_b5 n) (zb_i o) (zb_i d) (zb_i z) (zb_n w) v.2) (fun r => r.1 = zb_i (zb_tks N A B M O K LO LD LE R WK Q o d W) ∧ zb_J1 N A B M O K LO LD LE td Q R T TK W WK Z ZK r.2 ∧ zb_PP N A B M O K LO LD LE Q R d r.2 ∧ zb_fr zb_ZF s r.2) := by
      intro z hz
      unfold F_Mo_takingsOf_b84
      refine zb_Wlet ?_
      rw [show zb_n w + (1 : Int32) = zb_n (w + 1) from zb_n_add w 1, hz]
      exact ih v.2 ⟨v2, v3, f2⟩
    cases e : zb_wo (zb_wf N A B M O K LO LD LE R WK d w) R WK Q w with
    | false =>
      refine zb_Wpos rfl (b84 _ ?_)
      have z : zb_tkw N A B M O K LO LD LE R WK Q o d w = 0 := by unfold zb_tkw; rw [e]; rfl
      rw [eq, z, Int.add_zero]
    | true =>
      refine zb_Wneg (by decide) ?_
      have z : zb_tkw N A B M O K LO LD LE R WK Q o d w = zb_tb (zb_wf N A B M O K LO LD LE R WK d w) (fun r => (R r 3).toNat) (fun r => (R r 4).toNat) (fun r => (R r 2).toNat) Q (WK w 1).toNat (zb_cm (zb_wf N A B M O K LO LD LE R WK d w) (fun r => (R r 3).toNat) (fun r => (R r 4).toNat) Q (WK w 1).toNat (WK w 0).toNat) (WK w 0).toNat o (zb_cm (zb_wf N A B M O K LO LD LE R WK d w) (fun r => (R r 3).toNat) (fun r => (R r 4).toNat) Q (WK w 1).toNat (WK w 0).toNat) := by unfold zb_tkw; rw [if_pos e]
      obtain ⟨w1, w2⟩ := v6 e
      have hlt : zb_Sx (zb_wf N A B M O K LO LD LE R WK d w) (fun r => (R r 3).toNat) (fun r => (R r 4).toNat) Q (WK w 1).toNat 8 (WK w 0).toNat < zb_mu := by
        unfold zb_wo at e; rw [decide_eq_true_eq] at e; exact e.1
      have hj := zb_cm_ju hlt
      have c8 := (zb_cm_ok (f := zb_wf N A B M O K LO LD LE R WK d w) (Fr := fun r => (R r 3).toNat) (To := fun r => (R r 4).toNat) (Q := Q) (b := (WK w 1).toNat) (WK w 0).toNat).1
      rw [z] at eq
      generalize zb_cm (zb_wf N A B M O K LO LD LE R WK d w) (fun r => (R r 3).toNat) (fun r => (R r 4).toNat) Q (WK w 1).toNat (WK w 0).toNat = c at *
      have loop := zb_for0 (Q := fun r => r.1 = zb_i (zb_tks N A B M O K LO LD LE R WK Q o d W) ∧ zb_J1 N A B M O K LO LD LE td Q R T TK W WK Z ZK r.2 ∧ zb_PP N A B M O K LO LD LE Q R d r.2 ∧ zb_fr zb_ZF s r.2) (fun m k => F_Mo_takingsOf_b30 (F_Mo_takingsOf_b5 n) m (zb_i o) (zb_i d) (zb_i (zb_tks N A B M O K LO LD LE R WK Q o d w + zb_tb (zb_wf N A B M O K LO LD LE R WK d w) (fun r => (R r 3).toNat) (fun r => (R r 4).toNat) (fun r => (R r 2).toNat) Q (WK w 1).toNat c (WK w 0).toNat o k)) (zb_n w) (zb_n k) v.2) c (fun _ => True) ?_ ?_ ss_F 0 (by omega) (by unfold ss_F; omega) trivial
      · simp only [zb_tb, Int.add_zero] at loop; exact loop
      · intro m _
        simp only [F_Mo_takingsOf_b30]
        rw [w1]
        exact zb_Wpos (Int32.le_refl _) (b84 _ eq.symm)
      · intro m k hk _ ihk
        have ihk := ihk trivial
        have jk := zb_sq_ju hj k (by omega)
        rw [show c - k = c - k - 1 + 1 by omega] at jk
        have rlt := (zb_r1_ok jk).1
        have er : zb_ri (zb_wf N A B M O K LO LD LE R WK d w) (fun r => (R r 3).toNat) (fun r => (R r 4).toNat) Q (WK w 1).toNat c (WK w 0).toNat k < Q := by
          have : zb_ri (zb_wf N A B M O K LO LD LE R WK d w) (fun r => (R r 3).toNat) (fun r => (R r 4).toNat) Q (WK w 1).toNat c (WK w 0).toNat k = zb_r1 (zb_wf N A B M O K LO LD LE R WK d w) (fun r => (R r 3).toNat) (fun r => (R r 4).toNat) Q (WK w 1).toNat (c - k - 1 + 1) (zb_sq (zb_wf N A B M O K LO LD LE R WK d w) (fun r => (R r 3).toNat) (fun r => (R r 4).toNat) Q (WK w 1).toNat c (WK w 0).toNat k) := by unfold zb_ri; congr 1; omega
          rw [this]; exact rlt
        have e229 := w2 k hk
        simp only [zb_tb] at ihk
        generalize zb_ri (zb_wf N A B M O K LO LD LE R WK d w) (fun r => (R r 3).toNat) (fun r => (R r 4).toNat) Q (WK w 1).toNat c (WK w 0).toNat k = q at *
        obtain ⟨t1, t2, t3, t4, t5, t6, t7, t8, t9⟩ := v5.2.2 q er
        have ik : sv_ib (zb_n k) 8 = true := by rw [zb_ib_n (by omega)]; omega
        have iq : sv_ib (zb_n q) 60 = true := by rw [zb_ib_n (by omega)]; omega
        have b76 : ∀ y : Int, y = (if o = -1 ∨ (((R q 2).toNat : Nat) : Int) = o then zb_wf N A B M O K LO LD LE R WK d w q else 0) → zb_W (F_Mo_takingsOf_b76 (F_Mo_takingsOf_b5 n) (F_Mo_takingsOf_b30 (F_Mo_takingsOf_b5 n) m) (zb_i o) (zb_i d) (zb_n w) (zb_n k) (zb_i (zb_tks N A B M O K LO LD LE R WK Q o d w + zb_tb (zb_wf N A B M O K LO LD LE R WK d w) (fun r => (R r 3).toNat) (fun r => (R r 4).toNat) (fun r => (R r 2).toNat) Q (WK w 1).toNat c (WK w 0).toNat o k)) (zb_i y) v.2) (fun r => r.1 = zb_i (zb_tks N A B M O K LO LD LE R WK Q o d W) ∧ zb_J1 N A B M O K LO LD LE td Q R T TK W WK Z ZK r.2 ∧ zb_PP N A B M O K LO LD LE Q R d r.2 ∧ zb_fr zb_ZF s r.2) := by
          intro y hy
          unfold F_Mo_takingsOf_b76
          refine zb_Wlet (zb_Wlet ?_)
          rw [zb_i_add, show zb_n k + (1 : Int32) = zb_n (k + 1) from zb_n_add k 1, hy, Int.add_assoc]
          exact ihk
        have b60 : (o = -1 ∨ (((R q 2).toNat : Nat) : Int) = o) → zb_W (F_Mo_takingsOf_b60 (F_Mo_takingsOf_b5 n) (F_Mo_takingsOf_b30 (F_Mo_takingsOf_b5 n) m) (zb_i o) (zb_i d) (zb_n w) (zb_n k) (zb_i (zb_tks N A B M O K LO LD LE R WK Q o d w + zb_tb (zb_wf N A B M O K LO LD LE R WK d w) (fun r => (R r 3).toNat) (fun r => (R r 4).toNat) (fun r => (R r 2).toNat) Q (WK w 1).toNat c (WK w 0).toNat o k)) v.2) (fun r => r.1 = zb_i (zb_tks N A B M O K LO LD LE R WK Q o d W) ∧ zb_J1 N A B M O K LO LD LE td Q R T TK W WK Z ZK r.2 ∧ zb_PP N A B M O K LO LD LE Q R d r.2 ∧ zb_fr zb_ZF s r.2) := by
          intro hz
          unfold F_Mo_takingsOf_b60
          refine zb_Wpos ik ?_
          rw [zb_n_ix (by omega), e229]
          refine zb_Wpos iq ?_
          rw [zb_n_ix (by omega), t4]
          exact b76 _ (by rw [if_pos hz])
        simp only [F_Mo_takingsOf_b30]
        rw [w1]
        refine zb_Wneg (by rw [zb_n_le (by omega) (by omega)]; omega) ?_
        by_cases o1 : o = -1
        · exact zb_Wpos (by rw [o1]; decide) (b60 (Or.inl o1))
        · refine zb_Wneg (zb_ge0' (by omega) (by omega)) (zb_Wpos ik ?_)
          rw [zb_n_ix (by omega), e229]
          refine zb_Wpos iq ?_
          rw [zb_n_ix (by omega), t1]
          by_cases o2 : (((R q 2).toNat : Nat) : Int) = o
          · exact zb_Wpos (by rw [zb_n_i, o2]) (b60 (Or.inr o2))
          · refine zb_Wneg (by rw [zb_n_i, zb_i_eq (by omega) (by omega) (by omega) (by omega)]; exact o2) ?_
            have e0 : (0 : Int32) = zb_i 0 := zb_n_i 0
            rw [e0]
            exact b76 0 (by rw [if_neg (by rintro (q | q); exact o1 q; exact o2 q)])
theorem zb_c_takings (h : zb_J s) : zb_m11 (F_X_takings x1 x2 s) (F_Mo_takings x1 x2) s := by
  obtain ⟨N, A, B, M, O, K, LO, LD, LE, td, Q, R, T, TK, W, WK, Z, ZK, h⟩ := h
  have hW := h.1
  refine zb_m11_of (v := if ¬ (-1 ≤ x1.toInt ∧ x1.toInt ≤ 5) then (-1 : Int32) else if ¬ (0 ≤ x2.toInt ∧ x2.toInt ≤ 9999) then (-2 : Int32) else zb_i (zb_tks N A B M O K LO LD LE R WK Q x1.toInt x2.toInt W)) (N := N) (A := A) (B := B) (M := M) (O := O) (K := K) (LO := LO) (LD := LD) (LE := LE) (td := td) (Q := Q) (R := R) (T := T) (TK := TK) (W := W) (WK := WK) (Z := Z) (ZK := ZK) ?_ (fun u hu => ?_)
  · have kr := zb_keep_refl s
    simp only [F_X_takings, zb_g_owner, zb_g_station, zb_g_good, zb_g_tape, zb_g_day, zb_g_tons, zb_g_stations, zb_g_no1, zb_h_owner, zb_h_station, zb_h_good, zb_h_day, zb_h_tons, zb_h_tape, zb_h_inL, Option.bind_some, zb_bz, Int32.reduceToInt, zb_m1t, zb_m3t]
    by_cases q1 : -1 ≤ x1.toInt ∧ x1.toInt ≤ 5
    rotate_left
    · simp only [q1, and_false, false_and, and_true, true_and, and_self, not_true, not_false_iff, if_false, if_true]; exact (zb_Wsome ⟨rfl, h, kr⟩)
    by_cases q2 : 0 ≤ x2.toInt ∧ x2.toInt ≤ 9999
    rotate_left
    · simp only [q1, q2, and_false, false_and, and_true, true_and, and_self, not_true, not_false_iff, if_false, if_true]; exact (zb_Wsome ⟨rfl, h, kr⟩)
    simp only [q1, q2, and_false, false_and, and_true, true_and, and_self, not_true, not_false_iff, if_false, if_true]
    conv => lhs; rw [zb_i_of x1, zb_i_of x2]
    refine zb_Wbind2 (zb_sumTaken h q1.1 q1.2 q2.1 q2.2) (fun v hv => zb_Wsome ⟨hv.1, hv.2.1, zb_keep_fx hv.2.2 rfl⟩)
  · have kr := zb_keep_refl u
    simp only [F_Mo_takings, zb_g_owner, zb_g_station, zb_g_good, zb_g_tape, zb_g_day, zb_g_tons, zb_g_stations, zb_g_no1, zb_h_owner, zb_h_station, zb_h_good, zb_h_day, zb_h_tons, zb_h_tape, zb_h_inL, Option.bind_some, zb_bz, Int32.reduceToInt, zb_m1t, zb_m3t]
    by_cases q1 : -1 ≤ x1.toInt ∧ x1.toInt ≤ 5
    rotate_left
    · simp only [q1, and_false, false_and, and_true, true_and, and_self, not_true, not_false_iff, if_false, if_true]; exact (zb_Wsome ⟨rfl, hu, kr⟩)
    by_cases q2 : 0 ≤ x2.toInt ∧ x2.toInt ≤ 9999
    rotate_left
    · simp only [q1, q2, and_false, false_and, and_true, true_and, and_self, not_true, not_false_iff, if_false, if_true]; exact (zb_Wsome ⟨rfl, hu, kr⟩)
    simp only [q1, q2, and_false, false_and, and_true, true_and, and_self, not_true, not_false_iff, if_false, if_true]
    conv => lhs; rw [zb_i_of x1, zb_i_of x2]
    refine zb_Wbind2 (zb_prepare hW hu.2.1 q2.1 q2.2) (fun p hp => ?_)
    have J2 := zb_J_M hu hp.1 (by decide) (by decide)
    refine zb_Wbind2 (zb_takingsOf J2 hp.2 q1.1 q1.2 q2.1 q2.2) (fun v hv => zb_Wsome ⟨hv.1, hv.2.1, zb_keep_trans (zb_keep_fr hp.1 rfl) (zb_keep_fr hv.2.2.2 rfl)⟩)
end TKG
