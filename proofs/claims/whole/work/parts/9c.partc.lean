/-! part: the call -/
section PTC
variable {N K td Q T W Z : Nat} {A B O ZK : Nat → Nat} {M LO LD : Nat → Int} {LE : Nat → List zb_EF} {R TK WK : Nat → Nat → Int} {s : sv_S}
variable {x1 x2 x3 : Int32} {a b : Nat}
/-- how many lines a way has, their owners and miles -/
def zb_pnn (N : Nat) (A B : Nat → Nat) (M : Nat → Int) (O : Nat → Nat) (a b : Nat) : Nat := if zb_D N A B M O (-1) a b < 100000 then zb_wm (zb_di0 N A B M O (-1)) (zb_D N A B M O (-1)) b a else 0
def zb_po (N : Nat) (A B : Nat → Nat) (M : Nat → Int) (O : Nat → Nat) (a b i : Nat) : Nat := O (zb_lw N A B M O a b i).toNat
def zb_pm (N : Nat) (A B : Nat → Nat) (M : Nat → Int) (O : Nat → Nat) (a b i : Nat) : Int := M (zb_lw N A B M O a b i).toNat
theorem zb_pnn_rg (hL : zb_RL N A B M O) (ha : a < 16) (hb : b < 16) : zb_pnn N A B M O a b ≤ 15 ∧ (∀ i, i < zb_pnn N A B M O a b → zb_lw0 N A B M O a b i = zb_lw N A B M O a b i ∧ 0 ≤ zb_lw N A B M O a b i ∧ zb_lw N A B M O a b i < N ∧ zb_po N A B M O a b i < 6 ∧ 1 ≤ zb_pm N A B M O a b i ∧ zb_pm N A B M O a b i ≤ 200) ∧ zb_lw0 N A B M O a b (zb_pnn N A B M O a b) = -1 := by
  unfold zb_pnn
  by_cases w : zb_D N A B M O (-1) a b < 100000
  · rw [if_pos w]
    have wo := zb_wm_ok (O := O) hL.2.1 ha hb w
    refine ⟨wo.1, fun i hi => ?_, ?_⟩
    · have r := zb_lw_rg hL ha hb w hi
      have l := hL.2.1 (zb_lw N A B M O a b i).toNat (by omega)
      have o := hL.2.2 (zb_lw N A B M O a b i).toNat (by omega)
      refine ⟨?_, r.1, r.2, o, l.2.2.2.1, l.2.2.2.2⟩
      unfold zb_lw0; rw [if_pos ⟨w, hi⟩]
    · unfold zb_lw0; rw [if_neg (fun z => by omega)]
  · rw [if_neg w]
    refine ⟨by omega, fun i hi => absurd hi (by omega), ?_⟩
    unfold zb_lw0; rw [if_neg (fun z => w z.1)]
theorem zb_pmi (hL : zb_RL N A B M O) (ha : a < 16) (hb : b < 16) : ∀ i, i < zb_pnn N A B M O a b → 1 ≤ zb_pm N A B M O a b i ∧ zb_pm N A B M O a b i ≤ 200 := fun i hi => ((zb_pnn_rg hL ha hb).2.1 i hi).2.2.2.2
theorem zb_addMiles (hL : zb_RL N A B M O) (hX : zb_RX N A B M O s) (ha : a < 16) (hb : b < 16) (h0 : ∀ k, k < 6 → s.1 90 k = (0 : Int32)) : zb_W (F_Ro_addMilesOfOwners (zb_n a) (zb_n b) 90 s) (fun u => zb_fr [90] s u ∧ ∀ k, k < 6 → u.1 90 k = zb_i (zb_wi true (zb_po N A B M O a b) (zb_pm N A B M O a b) k (zb_pnn N A B M O a b))) := by
  obtain ⟨n15, hi, hl⟩ := zb_pnn_rg hL ha hb
  have N40 := hL.1
  generalize zb_pnn N A B M O a b = n at *
  unfold F_Ro_addMilesOfOwners
  have N90 : ∀ l : Nat → Nat, ss_N l 90 = 6 := fun _ => rfl
  refine zb_for (fun f i u => F_Ro_addMilesOfOwners_b3 f (zb_n a) (zb_n b) 90 (zb_n i) u) n (fun i u => zb_fr [90] s u ∧ ∀ k, k < 6 → u.1 90 k = zb_i (zb_wi true (zb_po N A B M O a b) (zb_pm N A B M O a b) k i)) ?_ ?_ ss_F 0 s (by omega) (by unfold ss_F; omega) ⟨zb_fr_refl _ _, fun k hk => (h0 k hk).trans (zb_n_i 0)⟩
  · intro f u hu
    have Xu := zb_RX_fr hX hu.1 (by decide)
    simp only [F_Ro_addMilesOfOwners_b3]
    refine zb_Wneg (by rw [show (16 : Int32) = zb_n 16 from rfl, zb_n_le (by omega) (by omega)]; omega) ?_
    refine zb_Wbind2 (zb_lineOnWay hL Xu ha hb (i := n) (by omega)) (fun r hr => ?_)
    rw [hr, hl]
    exact zb_Wneg (by decide) (zb_Wsome hu)
  · intro f i u hin hu ih
    have Xu := zb_RX_fr hX hu.1 (by decide)
    obtain ⟨e1, e2, e3, e4, e5, e6⟩ := hi i hin
    simp only [F_Ro_addMilesOfOwners_b3]
    refine zb_Wneg (by rw [show (16 : Int32) = zb_n 16 from rfl, zb_n_le (by omega) (by omega)]; omega) ?_
    refine zb_Wbind2 (zb_lineOnWay hL Xu ha hb (i := i) (by omega)) (fun r hr => ?_)
    rw [hr, e1]
    refine zb_Wpos (zb_ge0 e2 (by omega)) ?_
    rw [zb_in_n e2]
    have il : sv_ib (zb_n (zb_lw N A B M O a b i).toNat) 40 = true := by rw [zb_ib_n (by omega)]; omega
    obtain ⟨g1, g2⟩ := Xu.2.1 (zb_lw N A B M O a b i).toNat (by omega)
    refine zb_Wpos il ?_
    rw [zb_n_ix (by omega), g1, g2, N90]
    have io : sv_ib (zb_n (O (zb_lw N A B M O a b i).toNat)) 6 = true := by rw [zb_ib_n (by have : O (zb_lw N A B M O a b i).toNat < 6 := e4; omega)]; exact e4
    refine zb_Wpos io (zb_Wpos il (zb_Wpos io (zb_Wlet (zb_Wlet ?_))))
    have o6 : O (zb_lw N A B M O a b i).toNat < 6 := e4
    rw [zb_n_ix (by omega), hu.2 _ o6, zb_i_add, show zb_n i + (1 : Int32) = zb_n (i + 1) from zb_n_add i 1]
    refine ih _ ⟨zb_fr_set hu.1 rfl, fun k hk => ?_⟩
    simp only [zb_wi]
    by_cases q : zb_po N A B M O a b i = k
    · rw [if_pos q, if_pos trivial]
      subst q
      exact zb_set_eq
    · rw [if_neg q, zb_set_ne (show ¬ (90 = 90 ∧ k = O (zb_lw N A B M O a b i).toNat) from fun z => q z.2.symm)]
      exact hu.2 k hk
/-- the weights of a way on a day -/
def zb_pw (N : Nat) (A B : Nat → Nat) (M : Nat → Int) (O : Nat → Nat) (v : Int) (a b k : Nat) : Int := zb_wi (decide (v ≠ 0)) (zb_po N A B M O a b) (zb_pm N A B M O a b) k (zb_pnn N A B M O a b)
theorem zb_pw_rg (hL : zb_RL N A B M O) (ha : a < 16) (hb : b < 16) (v : Int) : ∀ k, 0 ≤ zb_pw N A B M O v a b k ∧ zb_pw N A B M O v a b k ≤ 3000 := by
  intro k
  have := zb_wi_rg (bm := decide (v ≠ 0)) (ow := zb_po N A B M O a b) (zb_pmi hL ha hb) k _ (Nat.le_refl _)
  have n15 := (zb_pnn_rg hL ha hb).1
  unfold zb_pw
  omega
theorem zb_weigh (hW : zb_MW N A B M O K LO LD LE td Q R T TK W WK Z ZK) (hL : zb_RL N A B M O) (h : zb_MX N A B M O K LO LD LE td Q R T TK W WK Z ZK s) {r : Nat} (hr : r < Q) {d : Int} (hd : 0 ≤ d) (hd9 : d ≤ 9999) (hv : 0 ≤ zb_v K LO LD LE (R r 2) d 6) (hv1 : zb_v K LO LD LE (R r 2) d 6 ≤ 1) : zb_W (F_Rs_weigh (91 + r) (zb_i d) s) (fun q => q.1 = zb_i (zb_sm (zb_pw N A B M O (zb_v K LO LD LE (R r 2) d 6) (R r 3).toNat (R r 4).toNat) 6) ∧ zb_MX N A B M O K LO LD LE td Q R T TK W WK Z ZK q.2 ∧ zb_fx [81003, 90] s q.2 ∧ ∀ k, k < 6 → q.2.1 90 k = zb_i (zb_pw N A B M O (zb_v K LO LD LE (R r 2) d 6) (R r 3).toNat (R r 4).toNat k)) := by
  have hQ := hW.2.1
  obtain ⟨_, h2, h3, h4, _⟩ := hW.2.2.1 r hr
  have ha : (R r 3).toNat < 16 := by omega
  have hb : (R r 4).toNat < 16 := by omega
  unfold F_Rs_weigh
  refine zb_Wbind2 (zb_fillI (c := 90) (m := 6) (x := (0 : Int32)) (fun _ => rfl) (by omega) (fun _ => rfl)) (fun r1 hr1 => ?_)
  have X1 := zb_MX_fr hQ h hr1.1 (by decide) (by decide)
  rw [zb_fld X1 hr (f := 3) (by omega) (by omega), zb_fld X1 hr (f := 4) (by omega) (by omega), zb_in_n h3.1, zb_in_n h4.1]
  refine zb_Wbind2 (zb_addMiles hL X1.1 ha hb hr1.2) (fun r2 hr2 => ?_)
  have X2 := zb_MX_fr hQ X1 hr2.1 (by decide) (by decide)
  rw [zb_fld X2 hr (f := 2) (by omega) (by omega), show (6 : Int32) = zb_n 6 from rfl]
  refine zb_Wbind2 (zb_value_X hQ X2 (w := 6) (by omega) h2.2 hd hd9 (by omega)) (fun r3 hr3 => ?_)
  obtain ⟨v1, v2, v3⟩ := hr3
  have f3 : zb_fx [81003, 90] s r3.2 := zb_fx_trans (zb_fr_fx (zb_fr_mono hr1.1 (by decide))) (zb_fx_trans (zb_fr_fx (zb_fr_mono hr2.1 (by decide))) (zb_fx_mono v3 (by decide)))
  have e90 : ∀ k, k < 6 → r3.2.1 90 k = zb_i (zb_wi true (zb_po N A B M O (R r 3).toNat (R r 4).toNat) (zb_pm N A B M O (R r 3).toNat (R r 4).toNat) k (zb_pnn N A B M O (R r 3).toNat (R r 4).toNat)) := fun k hk => (v3.1 90 k rfl).trans (hr2.2 k hk)
  have wr := fun k => zb_wi_rg (bm := true) (ow := zb_po N A B M O (R r 3).toNat (R r 4).toNat) (zb_pmi hL ha hb) k _ (Nat.le_refl _)
  have n15 := (zb_pnn_rg hL ha hb).1
  have al := fun k => zb_wi_alike (ow := zb_po N A B M O (R r 3).toNat (R r 4).toNat) (zb_pmi hL ha hb) k _ (Nat.le_refl _)
  rw [v1]
  generalize hG : zb_v K LO LD LE (R r 2) d 6 = G at *
  -- the walk over the owners
  have walk : ∀ fl : Nat, fl ≤ 1 → (fl = 0 ↔ G ≠ 0) → zb_W (F_Rs_weigh_b56 ss_F (zb_n fl) (0 : Int32) (0 : Int32) r3.2) (fun q => q.1 = zb_i (zb_sm (zb_pw N A B M O G (R r 3).toNat (R r 4).toNat) 6) ∧ zb_MX N A B M O K LO LD LE td Q R T TK W WK Z ZK q.2 ∧ zb_fx [81003, 90] s q.2 ∧ ∀ k, k < 6 → q.2.1 90 k = zb_i (zb_pw N A B M O G (R r 3).toNat (R r 4).toNat k)) := by
    intro fl hfl hfG
    have e1 : fl = 0 → ∀ k, zb_pw N A B M O G (R r 3).toNat (R r 4).toNat k = zb_wi true (zb_po N A B M O (R r 3).toNat (R r 4).toNat) (zb_pm N A B M O (R r 3).toNat (R r 4).toNat) k (zb_pnn N A B M O (R r 3).toNat (R r 4).toNat) := fun z k => by unfold zb_pw; rw [decide_eq_true (hfG.mp z)]
    have e2 : fl ≠ 0 → ∀ k, zb_pw N A B M O G (R r 3).toNat (R r 4).toNat k = if 0 < zb_wi true (zb_po N A B M O (R r 3).toNat (R r 4).toNat) (zb_pm N A B M O (R r 3).toNat (R r 4).toNat) k (zb_pnn N A B M O (R r 3).toNat (R r 4).toNat) then 1 else 0 := fun z k => by
      have : decide (G ≠ 0) = false := decide_eq_false (fun y => z (hfG.mpr y))
      unfold zb_pw; rw [this]; exact al k
    generalize zb_pw N A B M O G (R r 3).toNat (R r 4).toNat = w at *
    generalize hwt : (fun k => zb_wi true (zb_po N A B M O (R r 3).toNat (R r 4).toNat) (zb_pm N A B M O (R r 3).toNat (R r 4).toNat) k (zb_pnn N A B M O (R r 3).toNat (R r 4).toNat)) = wt at *
    have wte : ∀ k, zb_wi true (zb_po N A B M O (R r 3).toNat (R r 4).toNat) (zb_pm N A B M O (R r 3).toNat (R r 4).toNat) k (zb_pnn N A B M O (R r 3).toNat (R r 4).toNat) = wt k := fun k => by rw [← hwt]
    simp only [wte] at e1 e2 e90 wr
    refine zb_for (fun f k u => F_Rs_weigh_b56 f (zb_n fl) (zb_i (zb_sm w k)) (zb_n k) u) 6 (fun k u => zb_MX N A B M O K LO LD LE td Q R T TK W WK Z ZK u ∧ zb_fx [81003, 90] s u ∧ (∀ j, j < k → u.1 90 j = zb_i (w j)) ∧ ∀ j, k ≤ j → j < 6 → u.1 90 j = zb_i (wt j)) ?_ ?_ ss_F 0 r3.2 (by omega) (by unfold ss_F; omega) ⟨v2, f3, fun j hj => absurd hj (by omega), fun j _ hj => e90 j hj⟩
    · intro f u hu
      simp only [F_Rs_weigh_b56]
      exact zb_Wpos (Int32.le_refl _) (zb_Wsome ⟨rfl, hu.1, hu.2.1, hu.2.2.1⟩)
    · intro f k u hk hu ih
      obtain ⟨u1, u2, u3, u4⟩ := hu
      have ik : sv_ib (zb_n k) 6 = true := by rw [zb_ib_n (by omega)]; exact hk
      have wk := wr k
      have b85 : ∀ y : sv_S, zb_MX N A B M O K LO LD LE td Q R T TK W WK Z ZK y → zb_fx [81003, 90] s y → (∀ j, j < k → y.1 90 j = zb_i (w j)) → y.1 90 k = zb_i (w k) → (∀ j, k < j → j < 6 → y.1 90 j = zb_i (wt j)) → zb_W (F_Rs_weigh_b85 (F_Rs_weigh_b56 f) (zb_n fl) (zb_i (zb_sm w k)) (zb_n k) y) (fun q => q.1 = zb_i (zb_sm w 6) ∧ zb_MX N A B M O K LO LD LE td Q R T TK W WK Z ZK q.2 ∧ zb_fx [81003, 90] s q.2 ∧ ∀ k, k < 6 → q.2.1 90 k = zb_i (w k)) := by
        intro y y1 y2 y3 y4 y5
        unfold F_Rs_weigh_b85
        refine zb_Wpos ik (zb_Wlet (zb_Wlet ?_))
        rw [zb_n_ix (by omega), y4, zb_i_add, show zb_n k + (1 : Int32) = zb_n (k + 1) from zb_n_add k 1]
        refine ih y ⟨y1, y2, fun j hj => ?_, fun j hj => y5 j (by omega)⟩
        by_cases e : j = k
        · subst e; exact y4
        · exact y3 j (by omega)
      simp only [F_Rs_weigh_b56]
      refine zb_Wneg (by rw [show (6 : Int32) = zb_n 6 from rfl, zb_n_le (by omega) (by omega)]; omega) ?_
      by_cases z : fl = 0
      · refine zb_Wpos (by rw [z]; rfl) (b85 u u1 u2 u3 ?_ (fun j hj => u4 j (by omega)))
        rw [u4 k (by omega) hk, e1 z k]
      · refine zb_Wneg (by rw [show (0 : Int32) = zb_n 0 from rfl, zb_n_eq (by omega) (by omega)]; exact z) (zb_Wpos ik ?_)
        rw [zb_n_ix (by omega), u4 k (by omega) hk]
        have le0 : (zb_i (wt k) ≤ (0 : Int32)) = (wt k ≤ 0) := by rw [show (0 : Int32) = zb_i 0 from zb_n_i 0]; exact zb_i_le (by omega) (by omega) (by omega) (by omega)
        simp only [le0]
        refine zb_Wif (fun q => b85 u u1 u2 u3 ?_ (fun j hj => u4 j (by omega))) (fun q => zb_Wpos ik (zb_Wlet ?_))
        · rw [u4 k (by omega) hk, e2 z k, if_neg (by omega)]; congr 1; omega
        · have fs : zb_fr [90] u (ss_setI u 90 k (1 : Int32)) := zb_fr_set (zb_fr_refl _ _) rfl
          refine b85 _ (zb_MX_fr hQ u1 fs (by decide) (by decide)) (zb_fx_trans u2 (zb_fr_fx (zb_fr_mono fs (by decide)))) (fun j hj => ?_) ?_ (fun j hj h6 => ?_)
          · rw [zb_set_ne (by omega)]; exact u3 j hj
          · rw [zb_set_eq, e2 z k, if_pos (by omega)]; exact zb_n_i 1
          · rw [zb_set_ne (by omega)]; exact u4 j (by omega) h6
  unfold F_Rs_weigh_b49
  have g0 : (zb_i G = (0 : Int32)) = (G = 0) := by rw [show (0 : Int32) = zb_i 0 from zb_n_i 0]; exact zb_i_eq (by omega) (by omega) (by omega) (by omega)
  simp only [g0]
  refine zb_Wif (fun q => walk 1 (by omega) ⟨fun z => absurd z (by omega), fun z => absurd q z⟩) (fun q => walk 0 (by omega) ⟨fun _ => q, fun _ => rfl⟩)
theorem zb_share_X {w : Nat → Int} {p t : Int} {o r : Nat} (h : zb_wk p w t) (ho : o < 6) (e5 : s.1 (91 + r) 5 = zb_i p) (e90 : ∀ k, k < 6 → s.1 90 k = zb_i (w k)) : zb_W (F_Rs_share_b43 ss_F (91 + r) (zb_n o) (zb_i t) (zb_i p) (zb_i (p * w o % t)) (0 : Int32) (0 : Int32) s) (fun q => q.1 = zb_i (zb_pf p w t o) ∧ q.2 = s) := by
  obtain ⟨t18, each, eq, l0, l6⟩ := zb_wk_rg h
  have t0 := h.2.2.2.2
  have tz : ¬ zb_i t = 0 := by rw [show (0 : Int32) = zb_i 0 from zb_n_i 0, zb_i_eq (by omega) (by omega) (by omega) (by omega)]; omega
  have pd : ∀ k, k < 6 → zb_i p * zb_i (w k) / zb_i t = zb_i (p * w k / t) := fun k hk => by
    obtain ⟨a1, a2, _⟩ := each k hk
    rw [zb_i_mul, zb_i_div (by omega) (by omega) (by omega) (by omega), Int.tdiv_eq_ediv_of_nonneg a1]
  have pm : ∀ k, k < 6 → zb_i p * zb_i (w k) - zb_i p * zb_i (w k) / zb_i t * zb_i t = zb_i (p * w k % t) := fun k hk => by
    rw [pd k hk, zb_i_mul, zb_i_mul, zb_i_sub]
    congr 1
    have := Int.emod_add_mul_ediv (p * w k) t
    rw [Int.mul_comm (p * w k / t) t]; omega
  have six : ∀ j : Nat, j < 6 → sv_ib (zb_n j) 6 = true := fun j hj => by rw [zb_ib_n (by omega)]; exact hj
  obtain ⟨o1, o2, o3, o4, o5, o6⟩ := each o ho
  have lp := zb_for (Q := fun q => q.1 = zb_i (zb_pf p w t o) ∧ q.2 = s) (fun n k u => F_Rs_share_b43 n (91 + r) (zb_n o) (zb_i t) (zb_i (p - zb_sm (fun k => p * w k / t) k)) (zb_i (p * w o % t)) (zb_n (zb_cnt (fun k => zb_bt1 (fun k => p * w k % t) k o) k)) (zb_n k) u) 6 (fun k u => u = s) ?_ ?_ ss_F 0 s (by omega) (by unfold ss_F; omega) rfl
  · simp only [zb_sm, zb_cnt, Int.sub_zero] at lp
    exact lp
  · intro n u hu
    subst hu
    simp only [F_Rs_share_b43]
    refine zb_Wpos (Int32.le_refl _) (zb_Wpos (six o ho) (zb_Wneg tz ?_))
    have c6 := zb_cnt_n (P := fun k => zb_bt1 (fun k => p * w k % t) k o) 6
    rw [zb_n_ix (by omega), e5, e90 o ho, pd o ho, zb_n_i (zb_cnt _ 6)]
    simp only [zb_i_le (show -2147483648 ≤ p - zb_sm (fun k => p * w k / t) 6 by omega) (show p - zb_sm (fun k => p * w k / t) 6 ≤ 2147483647 by omega) (show -2147483648 ≤ ((zb_cnt (fun k => zb_bt1 (fun k => p * w k % t) k o) 6 : Nat) : Int) by omega) (show ((zb_cnt (fun k => zb_bt1 (fun k => p * w k % t) k o) 6 : Nat) : Int) ≤ 2147483647 by omega)]
    unfold zb_pf
    refine zb_Wif (fun q => zb_Wsome ⟨?_, rfl⟩) (fun q => zb_Wsome ⟨?_, rfl⟩)
    · rw [show (0 : Int32) = zb_i 0 from zb_n_i 0, zb_i_add, if_neg (by omega)]
    · rw [show (1 : Int32) = zb_i 1 from zb_n_i 1, zb_i_add, if_pos (by omega)]
  · intro n k u hk hu ih
    subst hu
    have ih := ih u rfl
    obtain ⟨a1, a2, a3, a4, a5, a6⟩ := each k hk
    simp only [F_Rs_share_b43]
    refine zb_Wneg (by rw [show (6 : Int32) = zb_n 6 from rfl, zb_n_le (by omega) (by omega)]; omega) (zb_Wpos (six k hk) (zb_Wneg tz (zb_Wlet (zb_Wpos (six k hk) (zb_Wneg tz (zb_Wlet ?_))))))
    rw [zb_n_ix (by omega), e5, e90 k hk, pm k hk, pd k hk, zb_i_sub, show p - zb_sm (fun k => p * w k / t) k - p * w k / t = p - zb_sm (fun k => p * w k / t) (k + 1) by simp only [zb_sm]; omega]
    have b110 : zb_bt1 (fun k => p * w k % t) k o = false → zb_W (F_Rs_share_b110 (F_Rs_share_b43 n) (91 + r) (zb_n o) (zb_i t) (zb_i (p - zb_sm (fun k => p * w k / t) (k + 1))) (zb_i (p * w o % t)) (zb_n (zb_cnt (fun k => zb_bt1 (fun k => p * w k % t) k o) k)) (zb_n k) u) (fun q => q.1 = zb_i (zb_pf p w t o) ∧ q.2 = u) := by
      intro z
      unfold F_Rs_share_b110
      refine zb_Wlet ?_
      rw [show zb_n k + (1 : Int32) = zb_n (k + 1) from zb_n_add k 1]
      rw [zb_cnt_s0 (P := fun k => zb_bt1 (fun k => p * w k % t) k o) z] at ih
      exact ih
    have b107 : zb_bt1 (fun k => p * w k % t) k o = true → zb_W (F_Rs_share_b107 (F_Rs_share_b43 n) (91 + r) (zb_n o) (zb_i t) (zb_i (p - zb_sm (fun k => p * w k / t) (k + 1))) (zb_i (p * w o % t)) (zb_n (zb_cnt (fun k => zb_bt1 (fun k => p * w k % t) k o) k)) (zb_n k) u) (fun q => q.1 = zb_i (zb_pf p w t o) ∧ q.2 = u) := by
      intro z
      unfold F_Rs_share_b107 F_Rs_share_b110
      refine zb_Wlet (zb_Wlet ?_)
      rw [show zb_n k + (1 : Int32) = zb_n (k + 1) from zb_n_add k 1, show zb_n (zb_cnt (fun k => zb_bt1 (fun k => p * w k % t) k o) k) + (1 : Int32) = zb_n (zb_cnt (fun k => zb_bt1 (fun k => p * w k % t) k o) k + 1) from zb_n_add _ 1]
      rw [zb_cnt_s1 (P := fun k => zb_bt1 (fun k => p * w k % t) k o) z] at ih
      exact ih
    simp only [zb_i_lt (show -2147483648 ≤ p * w o % t by omega) (show p * w o % t ≤ 2147483647 by omega) (show -2147483648 ≤ p * w k % t by omega) (show p * w k % t ≤ 2147483647 by omega), zb_i_eq (show -2147483648 ≤ p * w k % t by omega) (show p * w k % t ≤ 2147483647 by omega) (show -2147483648 ≤ p * w o % t by omega) (show p * w o % t ≤ 2147483647 by omega), zb_n_le (show o ≤ 2147483647 by omega) (show k ≤ 2147483647 by omega)]
    refine zb_Wif (fun q => b107 ?_) (fun q => zb_Wif (fun q2 => zb_Wif (fun q3 => b110 ?_) (fun q3 => b107 ?_)) (fun q2 => b110 ?_))
    · exact decide_eq_true (Or.inl q)
    · exact decide_eq_false (by dsimp only; omega)
    · exact decide_eq_true (Or.inr ⟨q2, by omega⟩)
    · exact decide_eq_false (by dsimp only; omega)
/-- the model's weights -/
theorem zb_p112 (hL : zb_RL N A B M O) (hM : zb_RM N A B M O s) (ha : a < 16) (hb : b < 16) (hlt : zb_D N A B M O (-1) a b < 100000) (hab : a ≠ b) {p v : Int} {o r : Nat} (ho : o < 6) (hr : r < 60) (p0 : 0 ≤ p) (p9 : p ≤ 9999) (hv : 0 ≤ v) (hv1 : v ≤ 1) (e19 : s.1 187 19 = zb_i v) (e9 : s.1 209 r = zb_i p) (en : s.1 187 9 = zb_n (zb_wm (zb_di0 N A B M O (-1)) (zb_D N A B M O (-1)) b a)) (e194 : ∀ i, i < zb_wm (zb_di0 N A B M O (-1)) (zb_D N A B M O (-1)) b a → s.1 194 i = zb_i (zb_lw N A B M O a b i)) :
    zb_W (F_Mo_part_b88 ss_F (zb_n r) (zb_n o) (0 : Int32) s) (fun q => q.1 = zb_i (zb_pf p (zb_pw N A B M O v a b) (zb_sm (zb_pw N A B M O v a b) 6) o) ∧ zb_fr [219, 220, 221] s q.2) ∧ 0 < zb_sm (zb_pw N A B M O v a b) 6 := by
  have hn : zb_pnn N A B M O a b = zb_wm (zb_di0 N A B M O (-1)) (zb_D N A B M O (-1)) b a := by unfold zb_pnn; rw [if_pos hlt]
  obtain ⟨n15, hi, _⟩ := zb_pnn_rg hL ha hb
  have wo := zb_wm_ok (O := O) hL.2.1 ha hb hlt
  have npos : 0 < zb_pnn N A B M O a b := by
    rw [hn]
    refine Nat.pos_of_ne_zero (fun z => ?_)
    have := wo.2.1
    rw [z] at this
    exact hab this
  rw [← hn] at en e194
  have wr := zb_pw_rg hL ha hb v
  have last := zb_wi_last (bm := decide (v ≠ 0)) (ow := zb_po N A B M O a b) (zb_pmi hL ha hb) npos
  have lo := (hi (zb_pnn N A B M O a b - 1) (by omega)).2.2.2.1
  have tpos : 0 < zb_sm (zb_pw N A B M O v a b) 6 := by
    have := (zb_sm_pos (f := zb_pw N A B M O v a b) 6 (fun k _ => (wr k).1)).2 _ lo
    unfold zb_pw at this ⊢
    omega
  have hk : zb_wk p (zb_pw N A B M O v a b) (zb_sm (zb_pw N A B M O v a b) 6) := ⟨p0, p9, fun k _ => wr k, rfl, tpos⟩
  refine ⟨?_, tpos⟩
  have b112 : ∀ u0 : sv_S, zb_fr [219, 220, 221] s u0 → (∀ k, k < 6 → u0.1 219 k = zb_i 0) → zb_W (F_Mo_part_b112 ss_F (zb_n r) (zb_n o) (0 : Int32) u0) (fun q => q.1 = zb_i (zb_pf p (zb_pw N A B M O v a b) (zb_sm (zb_pw N A B M O v a b) 6) o) ∧ zb_fr [219, 220, 221] s q.2) := by
    intro u0 f0 h0
    refine zb_for (fun f i u => F_Mo_part_b112 f (zb_n r) (zb_n o) (zb_n i) u) (zb_pnn N A B M O a b) (fun i u => zb_fr [219, 220, 221] s u ∧ ∀ k, k < 6 → u.1 219 k = zb_i (zb_wi (decide (v ≠ 0)) (zb_po N A B M O a b) (zb_pm N A B M O a b) k i)) ?_ ?_ ss_F 0 u0 (by omega) (by unfold ss_F; omega) ⟨f0, h0⟩
    · intro f u hu
      simp only [F_Mo_part_b112]
      rw [hu.1.1 187 9 rfl, en]
      exact zb_Wpos (Int32.le_refl _) (zb_p185 hk ho s hr hu.1 ((hu.1.1 209 r rfl).trans e9) hu.2)
    · intro f i u hin hu ih
      obtain ⟨_, e2, e3, e4, e5, e6⟩ := hi i hin
      have N40 := hL.1
      obtain ⟨m1, m2, m3, m4, _⟩ := hM.2.2 (zb_lw N A B M O a b i).toNat (by omega)
      have ii : sv_ib (zb_n i) 16 = true := by rw [zb_ib_n (by omega)]; omega
      have il : sv_ib (zb_n (zb_lw N A B M O a b i).toNat) 40 = true := by rw [zb_ib_n (by omega)]; omega
      have o6 : O (zb_lw N A B M O a b i).toNat < 6 := e4
      have io : sv_ib (zb_n (O (zb_lw N A B M O a b i).toNat)) 6 = true := by rw [zb_ib_n (by omega)]; exact o6
      have c194 : u.1 194 i = zb_n (zb_lw N A B M O a b i).toNat := by rw [hu.1.1 194 i rfl, e194 i hin, zb_in_n e2]
      simp only [F_Mo_part_b112]
      rw [hu.1.1 187 9 rfl, en]
      refine zb_Wneg (by rw [zb_n_le (by omega) (by omega)]; omega) (zb_Wpos ii ?_)
      rw [zb_n_ix (by omega), c194]
      refine zb_Wpos il (zb_Wlet ?_)
      rw [zb_n_ix (by omega), hu.1.1 188 _ rfl, m1, hu.1.1 187 19 rfl, e19, hu.1.1 191 _ rfl, m4]
      have b172 : ∀ y : Int, y = (if decide (v ≠ 0) = true then zb_wi (decide (v ≠ 0)) (zb_po N A B M O a b) (zb_pm N A B M O a b) (zb_po N A B M O a b i) i + zb_pm N A B M O a b i else 1) → zb_W (F_Mo_part_b172 (F_Mo_part_b112 f) (zb_n r) (zb_n o) (zb_n i) (zb_n (O (zb_lw N A B M O a b i).toNat)) (zb_i y) u) (fun q => q.1 = zb_i (zb_pf p (zb_pw N A B M O v a b) (zb_sm (zb_pw N A B M O v a b) 6) o) ∧ zb_fr [219, 220, 221] s q.2) := by
        intro y hy
        unfold F_Mo_part_b172
        refine zb_Wpos io (zb_Wlet (zb_Wlet ?_))
        rw [zb_n_ix (by omega), show zb_n i + (1 : Int32) = zb_n (i + 1) from zb_n_add i 1]
        refine ih _ ⟨zb_fr_set hu.1 rfl, fun k hk6 => ?_⟩
        simp only [zb_wi]
        by_cases q : zb_po N A B M O a b i = k
        · rw [if_pos q, ← q, ← hy]
          exact zb_set_eq
        · rw [if_neg q, zb_set_ne (show ¬ (219 = 219 ∧ k = O (zb_lw N A B M O a b i).toNat) from fun z => q z.2.symm)]
          exact hu.2 k hk6
      have v0 : (zb_i v = (0 : Int32)) = (v = 0) := by rw [show (0 : Int32) = zb_i 0 from zb_n_i 0]; exact zb_i_eq (by omega) (by omega) (by omega) (by omega)
      simp only [v0]
      refine zb_Wif (fun q => ?_) (fun q => zb_Wpos io (zb_Wpos ii (zb_Wpos il ?_)))
      · have := b172 1 (by rw [decide_eq_false (not_not_intro q), if_neg (by decide)])
        rw [show zb_i 1 = (1 : Int32) from (zb_n_i 1).symm] at this
        exact this
      · rw [zb_n_ix (by omega), hu.2 _ o6, zb_i_add]
        exact b172 _ (by rw [decide_eq_true q, if_pos rfl]; rfl)
  refine zb_for (fun f k u => F_Mo_part_b88 f (zb_n r) (zb_n o) (zb_n k) u) 6 (fun k u => zb_fr [219, 220, 221] s u ∧ ∀ j, j < k → u.1 219 j = zb_i 0) ?_ ?_ ss_F 0 s (by omega) (by unfold ss_F; omega) ⟨zb_fr_refl _ _, fun j hj => absurd hj (by omega)⟩
  · intro f u hu
    simp only [F_Mo_part_b88]
    exact zb_Wpos (Int32.le_refl _) (b112 u hu.1 hu.2)
  · intro f k u hk6 hu ih
    simp only [F_Mo_part_b88]
    refine zb_Wneg (by rw [show (6 : Int32) = zb_n 6 from rfl, zb_n_le (by omega) (by omega)]; omega) (zb_Wpos (by rw [zb_ib_n (by omega)]; exact hk6) (zb_Wlet (zb_Wlet ?_)))
    rw [zb_n_ix (by omega), show zb_n k + (1 : Int32) = zb_n (k + 1) from zb_n_add k 1]
    refine ih _ ⟨zb_fr_set hu.1 rfl, fun j hj => ?_⟩
    by_cases e : j = k
    · subst e; rw [zb_set_eq]; exact zb_n_i 0
    · rw [zb_set_ne (by omega)]; exact hu.2 j (by omega)
theorem zb_c_part (h : zb_J s) : zb_m11 (F_X_part x1 x2 x3 s) (F_Mo_part x1 x2 x3) s := by
  obtain ⟨N, A, B, M, O, K, LO, LD, LE, td, Q, R, T, TK, W, WK, Z, ZK, h⟩ := h
  have hj := zb_J_of h
  obtain ⟨hW, hM, hX, hO, hB⟩ := id h
  have hQ := hW.2.1
  have hL := zb_RM_RL hM.1
  by_cases q1 : 0 ≤ x1.toInt ∧ x1.toInt < Q
  rotate_left
  · refine zb_m11_no (v := (-1 : Int32)) hj ?_ ?_
    · simp only [F_X_part, zb_g_rate hX hQ, Option.bind_some, zb_bz]; rw [if_pos q1]
    · simp only [F_Mo_part, zb_h_rate hM hQ, Option.bind_some, zb_bz]; rw [if_pos q1]
  by_cases q2 : 0 ≤ x3.toInt ∧ x3.toInt ≤ 5
  rotate_left
  · refine zb_m11_no (v := (-1 : Int32)) hj ?_ ?_
    · simp only [F_X_part, zb_g_rate hX hQ, zb_g_owner, Option.bind_some, zb_bz]; rw [if_neg (not_not_intro q1), if_pos q2]
    · simp only [F_Mo_part, zb_h_rate hM hQ, zb_h_owner, Option.bind_some, zb_bz]; rw [if_neg (not_not_intro q1), if_pos q2]
  obtain ⟨r, hr, rfl⟩ := zb_an3 q1
  obtain ⟨o, ho, rfl⟩ := zb_an2 q2
  have ho6 : o < 6 := by omega
  have ir : sv_ib (zb_n r) 60 = true := by rw [zb_ib_n (by omega)]; omega
  have ix : (zb_n r).toNatClampNeg = r := zb_n_ix (by omega)
  have rk := hW.2.2.1 r hr
  obtain ⟨a1, a2, a3, a4, ane, a5, _⟩ := id rk
  have e1 : (zb_i (R r 1) = (1 : Int32)) = (R r 1 = 1) := by rw [show (1 : Int32) = zb_i 1 from zb_n_i 1]; exact zb_i_eq (by omega) (by omega) (by omega) (by omega)
  have e4 : (zb_i (R r 1) = (4 : Int32)) = (R r 1 = 4) := by rw [show (4 : Int32) = zb_i 4 from zb_n_i 4]; exact zb_i_eq (by omega) (by omega) (by omega) (by omega)
  have xg : F_X_part (zb_n r) x2 (zb_n o) s = if R r 1 = 1 ∨ R r 1 = 4 then F_X_part_b51 x2 (zb_n o) (91 + r) s else some ((-12 : Int32), s) := by
    simp only [F_X_part, zb_g_rate hX hQ, zb_g_owner, Option.bind_some, zb_bz]
    rw [if_neg (not_not_intro q1), if_neg (not_not_intro q2), zb_row (by omega), Option.bind_some, if_pos (zb_ok91 (by omega))]
    simp only [zb_fld hX hr (f := 1) (by omega) (by omega), e1, e4]
    by_cases w1 : R r 1 = 1
    · rw [if_pos w1, if_pos (Or.inl w1)]
    · rw [if_neg w1]
      by_cases w4 : R r 1 = 4
      · rw [if_pos w4, if_pos (Or.inr w4)]
      · rw [if_neg w4, if_neg (by omega)]
  have mg : ∀ u, zb_MM N A B M O K LO LD LE td Q R T TK W WK Z ZK u → F_Mo_part (zb_n r) x2 (zb_n o) u = if R r 1 = 1 ∨ R r 1 = 4 then F_Mo_part_b41 (zb_n r) x2 (zb_n o) u else some ((-12 : Int32), u) := by
    intro u hu
    simp only [F_Mo_part, zb_h_rate hu hQ, zb_h_owner, Option.bind_some, zb_bz]
    rw [if_neg (not_not_intro q1), if_neg (not_not_intro q2)]
    simp only [ir, if_true, ix, zb_fldM hu.2.2.2.1 hr (f := 1) (c := 205) (by omega) (by omega) rfl, e1, e4]
    by_cases w1 : R r 1 = 1
    · rw [if_pos w1, if_pos (Or.inl w1)]
    · rw [if_neg w1]
      by_cases w4 : R r 1 = 4
      · rw [if_pos w4, if_pos (Or.inr w4)]
      · rw [if_neg w4, if_neg (by omega)]
  by_cases q3 : R r 1 = 1 ∨ R r 1 = 4
  rotate_left
  · exact zb_m11_no (v := (-12 : Int32)) hj (by rw [xg, if_neg q3]) (by rw [mg s hM, if_neg q3])
  rw [if_pos q3] at xg
  simp only [if_pos q3] at mg
  by_cases q4 : 0 ≤ x2.toInt ∧ x2.toInt ≤ 9999
  rotate_left
  · refine zb_m11_no (v := (-2 : Int32)) hj ?_ ?_
    · rw [xg]; simp only [F_X_part_b51, zb_g_day, Option.bind_some, zb_bz]; rw [if_pos q4]
    · rw [mg s hM]; simp only [F_Mo_part_b41, zb_h_day, Option.bind_some, zb_bz]; rw [if_pos q4]
  obtain ⟨d, d1, d2, rfl⟩ := zb_ai q4
  have ha : (R r 3).toNat < 16 := by omega
  have hb : (R r 4).toNat < 16 := by omega
  have hab : (R r 3).toNat ≠ (R r 4).toNat := by omega
  have vr := zb_v_rg hM.2.1 (R r 2) d 6
  refine zb_m11_ch (v := if zb_D N A B M O (-1) (R r 3).toNat (R r 4).toNat < 100000 then zb_i (zb_pf (R r 5) (zb_pw N A B M O (zb_v K LO LD LE (R r 2) d 6) (R r 3).toNat (R r 4).toNat) (zb_sm (zb_pw N A B M O (zb_v K LO LD LE (R r 2) d 6) (R r 3).toNat (R r 4).toNat) 6) o) else (-3 : Int32)) (LX := [81003, 90]) (LM := [192, 193, 194, 187009, 219, 220, 221] ++ zb_ZL) h hW ?_ (fun u hu => ?_) (by decide) (by decide) (by decide)
  · rw [xg]
    simp only [F_X_part_b51, zb_g_day, Option.bind_some, zb_bz]
    rw [if_neg (not_not_intro q4)]
    unfold F_Rs_share
    refine zb_Wbind (zb_Wbind2 (zb_weigh hW hL hX hr d1 d2 vr.1 (vr.2.2.1 rfl)) (fun q hq => ?_))
    obtain ⟨g1, g2, g3, g4⟩ := hq
    have wr := zb_pw_rg hL ha hb (zb_v K LO LD LE (R r 2) d 6)
    have s0 := (zb_sm_pos (f := zb_pw N A B M O (zb_v K LO LD LE (R r 2) d 6) (R r 3).toNat (R r 4).toNat) 6 (fun k _ => (wr k).1)).1
    have s18 := zb_sm_le (f := zb_pw N A B M O (zb_v K LO LD LE (R r 2) d 6) (R r 3).toNat (R r 4).toNat) (m := 3000) 6 (fun k _ => (wr k).2)
    rw [g1]
    have z0 : ((0 : Int32) < zb_i (zb_sm (zb_pw N A B M O (zb_v K LO LD LE (R r 2) d 6) (R r 3).toNat (R r 4).toNat) 6)) = (0 < zb_sm (zb_pw N A B M O (zb_v K LO LD LE (R r 2) d 6) (R r 3).toNat (R r 4).toNat) 6) := by rw [show (0 : Int32) = zb_i 0 from zb_n_i 0]; exact zb_i_lt (by omega) (by omega) (by omega) (by omega)
    simp only [z0]
    by_cases w : zb_D N A B M O (-1) (R r 3).toNat (R r 4).toNat < 100000
    · rw [if_pos w]
      -- a way has a line
      obtain ⟨n15, hi, _⟩ := zb_pnn_rg hL ha hb
      have hn : zb_pnn N A B M O (R r 3).toNat (R r 4).toNat = zb_wm (zb_di0 N A B M O (-1)) (zb_D N A B M O (-1)) (R r 4).toNat (R r 3).toNat := by unfold zb_pnn; rw [if_pos w]
      have wo := zb_wm_ok (O := O) hL.2.1 ha hb w
      have npos : 0 < zb_pnn N A B M O (R r 3).toNat (R r 4).toNat := by
        rw [hn]
        refine Nat.pos_of_ne_zero (fun z => ?_)
        have := wo.2.1
        rw [z] at this
        exact hab this
      have last := zb_wi_last (bm := decide (zb_v K LO LD LE (R r 2) d 6 ≠ 0)) (ow := zb_po N A B M O (R r 3).toNat (R r 4).toNat) (zb_pmi hL ha hb) npos
      have lo := (hi (zb_pnn N A B M O (R r 3).toNat (R r 4).toNat - 1) (by omega)).2.2.2.1
      have tpos : 0 < zb_sm (zb_pw N A B M O (zb_v K LO LD LE (R r 2) d 6) (R r 3).toNat (R r 4).toNat) 6 := by
        have := (zb_sm_pos (f := zb_pw N A B M O (zb_v K LO LD LE (R r 2) d 6) (R r 3).toNat (R r 4).toNat) 6 (fun k _ => (wr k).1)).2 _ lo
        unfold zb_pw at this ⊢
        omega
      generalize zb_pw N A B M O (zb_v K LO LD LE (R r 2) d 6) (R r 3).toNat (R r 4).toNat = w6 at *
      generalize ht : zb_sm w6 6 = t at *
      have hk : zb_wk (R r 5) w6 t := ⟨a5.1, a5.2.1, fun k _ => wr k, ht.symm, tpos⟩
      obtain ⟨t18, each, eq, l0, l6⟩ := zb_wk_rg hk
      obtain ⟨o1, o2, o3, o4, o5, o6⟩ := each o ho6
      have e5 : q.2.1 (91 + r) 5 = zb_i (R r 5) := zb_fld g2 hr (f := 5) (by omega) (by omega)
      refine zb_Wpos tpos (zb_Wlet (zb_Wpos (by rw [zb_ib_n (by omega)]; exact ho6) (zb_Wneg ?_ (zb_Wlet ?_))))
      · rw [show (0 : Int32) = zb_i 0 from zb_n_i 0, zb_i_eq (by omega) (by omega) (by omega) (by omega)]; omega
      have pm : zb_i (R r 5) * zb_i (w6 o) - zb_i (R r 5) * zb_i (w6 o) / zb_i t * zb_i t = zb_i (R r 5 * w6 o % t) := by
        rw [zb_i_mul, zb_i_div (by omega) (by omega) (by omega) (by omega), Int.tdiv_eq_ediv_of_nonneg o1, zb_i_mul, zb_i_sub]
        congr 1
        have := Int.emod_add_mul_ediv (R r 5 * w6 o) t
        rw [Int.mul_comm (R r 5 * w6 o / t) t]; omega
      rw [zb_n_ix (by omega), e5, g4 o ho6, pm]
      refine zb_Wmono (zb_share_X (r := r) hk ho6 e5 g4) (fun y hy => ?_)
      rw [hy.1, hy.2]
      have pf0 : 0 ≤ zb_pf (R r 5) w6 t o ∧ zb_pf (R r 5) w6 t o ≤ 29997001 := by
        unfold zb_pf
        split <;> omega
      exact zb_Wpos (zb_ge0 pf0.1 (by omega)) (zb_Wsome ⟨rfl, g2, g3⟩)
    · rw [if_neg w]
      have n0 : zb_pnn N A B M O (R r 3).toNat (R r 4).toNat = 0 := by unfold zb_pnn; rw [if_neg w]
      have sz : zb_sm (zb_pw N A B M O (zb_v K LO LD LE (R r 2) d 6) (R r 3).toNat (R r 4).toNat) 6 = 0 := by
        have : ∀ k, zb_pw N A B M O (zb_v K LO LD LE (R r 2) d 6) (R r 3).toNat (R r 4).toNat k = 0 := fun k => by unfold zb_pw; rw [n0]; rfl
        simp only [zb_sm, this]; rfl
      refine zb_Wneg (by omega) (zb_Wsome ?_)
      dsimp only
      exact zb_Wneg (by decide) (zb_Wsome ⟨rfl, g2, g3⟩)
  · rw [mg u hu]
    simp only [F_Mo_part_b41, zb_h_day, Option.bind_some, zb_bz]
    rw [if_neg (not_not_intro q4)]
    simp only [ir, if_true, ix]
    rw [zb_fldM hu.2.2.2.1 hr (f := 3) (c := 207) (by omega) (by omega) rfl, zb_fldM hu.2.2.2.1 hr (f := 4) (c := 208) (by omega) (by omega) rfl, zb_in_n a3.1, zb_in_n a4.1]
    refine zb_Wbind2 (zb_findWay hu.1 ha hb) (fun q hq => ?_)
    obtain ⟨g1, g2, g3⟩ := hq
    have M1 := zb_MM_fr hu g1 (by decide)
    rw [g2]
    by_cases w : zb_D N A B M O (-1) (R r 3).toNat (R r 4).toNat < 100000
    · rw [if_pos w, if_pos w]
      obtain ⟨g4, g5⟩ := g3 w
      refine zb_Wneg (by decide) ?_
      rw [zb_fldM M1.2.2.2.1 hr (f := 2) (c := 206) (by omega) (by omega) rfl]
      refine zb_Wbind2 (zb_look M1.2.1 (o := R r 2) (by omega) a2.2 d1 d2) (fun y hy => ?_)
      obtain ⟨y1, sm, ex, mv, _⟩ := hy
      have M2 := zb_MM_fr M1 y1 (by decide)
      refine zb_Wmono (zb_p112 hL M2.1 ha hb w hab ho6 (by omega) a5.1 a5.2.1 vr.1 (vr.2.2.1 rfl) mv.2.1 (zb_fldM M2.2.2.2.1 hr (f := 5) (c := 209) (by omega) (by omega) rfl) ((y1.1 187 9 rfl).trans g4) (fun i hi => (y1.1 194 i rfl).trans (g5 i hi))).1 (fun z hz => ?_)
      exact ⟨hz.1, zb_MM_fr M2 hz.2 (by decide), zb_fr_trans (zb_fr_mono g1 (by decide)) (zb_fr_trans (zb_fr_mono y1 (by decide)) (zb_fr_mono hz.2 (by decide)))⟩
    · rw [if_neg w, if_neg w]
      exact zb_Wpos rfl (zb_Wsome ⟨rfl, M1, zb_fr_mono g1 (by decide)⟩)
end PTC
