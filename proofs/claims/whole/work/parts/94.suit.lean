/-! suit -/
section SUI
variable {N K td Q T W Z : Nat} {A B O ZK : Nat → Nat} {M LO LD : Nat → Int} {LE : Nat → List zb_EF} {R TK WK : Nat → Nat → Int} {s : sv_S}
variable {x1 x2 x3 : Int32}
/-- what one truck adds -/
def zb_clm (N : Nat) (A B : Nat → Nat) (M : Nat → Int) (O : Nat → Nat) (K : Nat) (LO LD : Nat → Int) (LE : Nat → List zb_EF) (td : Nat) (R TK : Nat → Nat → Int) (a : Nat) (t : Nat) : Int64 :=
  if R (TK t 0).toNat 3 = a ∧ (td : Int) - TK t 4 ≤ zb_v K LO LD LE (-1) td 4 ∧ 0 ≤ zb_du N A B M O K LO LD LE R TK t ∧ zb_du N A B M O K LO LD LE R TK t < TK t 3 then
    zb_l (TK t 3 - zb_du N A B M O K LO LD LE R TK t) + zb_l (TK t 3 - zb_du N A B M O K LO LD LE R TK t) * zb_l (zb_v K LO LD LE (-1) td 5) * zb_l (((td : Int) - TK t 4) / 365) / (1000 : Int64) else zb_l 0
def zb_clms (N : Nat) (A B : Nat → Nat) (M : Nat → Int) (O : Nat → Nat) (K : Nat) (LO LD : Nat → Int) (LE : Nat → List zb_EF) (td : Nat) (R TK : Nat → Nat → Int) (a : Nat) : Nat → Int64
  | 0 => zb_l 0
  | t + 1 => zb_clms N A B M O K LO LD LE td R TK a t + zb_clm N A B M O K LO LD LE td R TK a t
theorem zb_l0 (y : Int64) : y + zb_l 0 = y := Int64.add_zero y
theorem zb_365 {z : Int} (h : 0 ≤ z) (h2 : z ≤ 2147483647) : (zb_i z / (365 : Int32)).toInt64 = zb_l (z / 365) := by
  rw [show (365 : Int32) = zb_i 365 from zb_n_i 365, zb_i_div (by omega) (by omega) (by omega) (by omega), Int.tdiv_eq_ediv_of_nonneg h, zb_x_l, zb_ti (by omega) (by omega)]
theorem zb_claims_X (h : zb_J1 N A B M O K LO LD LE td Q R T TK W WK Z ZK s) {a : Nat} (ha : a < 16) : zb_W (F_Tr_claims (zb_n a) (zb_n td) s) (fun r => r.1 = zb_clms N A B M O K LO LD LE td R TK a T ∧ zb_J1 N A B M O K LO LD LE td Q R T TK W WK Z ZK r.2 ∧ zb_fx [81003] s r.2) := by
  have hW := h.1
  have hQ := hW.2.1
  have h80 := hW.2.2.2.1
  have td9 := hW.1
  unfold F_Tr_claims
  rw [zb_m1, zb_n_i td, show (4 : Int32) = zb_n 4 from rfl, show (5 : Int32) = zb_n 5 from rfl]
  refine zb_Wbind2 (zb_value_X hQ h.2.2.1 (o := -1) (d := td) (w := 4) (by omega) (by omega) (by omega) (by omega) (by omega)) (fun r hr => ?_)
  obtain ⟨r1, r2, r3⟩ := hr
  refine zb_Wbind2 (zb_value_X hQ r2 (o := -1) (d := td) (w := 5) (by omega) (by omega) (by omega) (by omega) (by omega)) (fun q hq => ?_)
  obtain ⟨q1, q2, q3⟩ := hq
  have fq := zb_fx_trans r3 q3
  have Jq := zb_J_X h q2 fq (by decide)
  rw [r1, q1]
  have v4 := zb_v_rg h.2.1.2.1 (-1) td 4
  have v5 := zb_v_rg h.2.1.2.1 (-1) td 5
  refine zb_for (fun n t u => F_Tr_claims_b29 n (zb_n a) (zb_i td) (zb_i (zb_v K LO LD LE (-1) td 4)) (zb_i (zb_v K LO LD LE (-1) td 5)) (zb_clms N A B M O K LO LD LE td R TK a t) (zb_n t) u) T (fun t u => zb_J1 N A B M O K LO LD LE td Q R T TK W WK Z ZK u ∧ zb_fx [81003] s u) ?_ ?_ ss_F 0 q.2 (by omega) (by unfold ss_F; omega) ⟨Jq, fq⟩
  · intro n u hu
    simp only [F_Tr_claims_b29]
    rw [hu.1.2.2.1.2.2.2.2.2.1.1]
    exact zb_Wpos (Int32.le_refl _) (zb_Wsome ⟨rfl, hu⟩)
  · intro n t u ht hu ih
    obtain ⟨k1, k2, k3, k4, k5⟩ := hW.2.2.2.2.1 t ht
    obtain ⟨e0, r0⟩ := zb_trk hW hu.1.2.2.1 ht
    obtain ⟨_, _, m3, _⟩ := hW.2.2.1 _ r0
    have it : sv_ib (zb_n t) 80 = true := by rw [zb_ib_n (by omega)]; omega
    have ix : (zb_n t).toNatClampNeg = t := zb_n_ix (by omega)
    have row := hu.1.2.2.1.2.2.2.2.2.1.2 t ht
    have eq : zb_clms N A B M O K LO LD LE td R TK a (t + 1) = zb_clms N A B M O K LO LD LE td R TK a t + zb_clm N A B M O K LO LD LE td R TK a t := rfl
    have go : ∀ (y : Int64) (v : sv_S), y = zb_clms N A B M O K LO LD LE td R TK a (t + 1) → zb_J1 N A B M O K LO LD LE td Q R T TK W WK Z ZK v → zb_fx [81003] s v → zb_W (F_Tr_claims_b83 (F_Tr_claims_b29 n) (zb_n a) (zb_i td) (zb_i (zb_v K LO LD LE (-1) td 4)) (zb_i (zb_v K LO LD LE (-1) td 5)) y (zb_n t) v) (fun r => r.1 = zb_clms N A B M O K LO LD LE td R TK a T ∧ zb_J1 N A B M O K LO LD LE td Q R T TK W WK Z ZK r.2 ∧ zb_fx [81003] s r.2) := by
      intro y v hy Jv fv
      unfold F_Tr_claims_b83
      refine zb_Wlet ?_
      rw [show zb_n t + (1 : Int32) = zb_n (t + 1) from zb_n_add t 1, hy]
      exact ih v ⟨Jv, fv⟩
    simp only [F_Tr_claims_b29]
    rw [hu.1.2.2.1.2.2.2.2.2.1.1]
    refine zb_Wneg (by rw [zb_n_le (by omega) (by omega)]; omega) (zb_Wpos it (zb_Wlet ?_))
    rw [ix, show u.1 156 t = zb_i (TK t 4) from row 4 (by omega), zb_i_sub, e0]
    refine zb_Wbind (zb_Wsome (zb_Wpos (zb_ok91 (by omega)) ?_))
    rw [zb_fld hu.1.2.2.1 r0 (f := 3) (by omega) (by omega), zb_n_i a]
    simp only [zb_i_eq (show -2147483648 ≤ R (TK t 0).toNat 3 by omega) (show R (TK t 0).toNat 3 ≤ 2147483647 by omega) (show -2147483648 ≤ (a : Int) by omega) (show (a : Int) ≤ 2147483647 by omega), zb_i_lt (show -2147483648 ≤ zb_v K LO LD LE (-1) td 4 by omega) (show zb_v K LO LD LE (-1) td 4 ≤ 2147483647 by omega) (show -2147483648 ≤ (td : Int) - TK t 4 by omega) (show (td : Int) - TK t 4 ≤ 2147483647 by omega)]
    rw [← zb_n_i a]
    refine zb_Wif (fun w1 => zb_Wif (fun w2 => ?_) (fun w2 => ?_)) (fun w1 => ?_)
    · refine go _ u ?_ hu.1 hu.2
      rw [eq]; unfold zb_clm; rw [if_neg (fun z => by omega), zb_l0]
    · unfold F_Tr_claim
      refine zb_Wbind (zb_Wbind2 (zb_dueOf_X hu.1 ht) (fun r hr => ?_))
      obtain ⟨p1, p2, p3⟩ := hr
      have fr := zb_fx_trans hu.2 p3
      rw [p1]
      have du := zb_du_rg hW p2.2.1 ht
      have row2 := p2.2.2.1.2.2.2.2.2.1.2 t ht
      simp only [zb_sg1 (show -2147483648 ≤ zb_du N A B M O K LO LD LE R TK t by omega) (show zb_du N A B M O K LO LD LE R TK t ≤ 2147483647 by omega)]
      refine zb_Wif (fun w3 => zb_Wsome (zb_Wlet (go _ r.2 ?_ p2 fr))) (fun w3 => zb_Wpos it ?_)
      · rw [eq]; unfold zb_clm; rw [if_neg (fun z => by omega)]; rfl
      rw [ix, show r.2.1 155 t = zb_i (TK t 3) from row2 3 (by omega)]
      simp only [zb_i_lt (show -2147483648 ≤ zb_du N A B M O K LO LD LE R TK t by omega) (show zb_du N A B M O K LO LD LE R TK t ≤ 2147483647 by omega) (show -2147483648 ≤ TK t 3 by omega) (show TK t 3 ≤ 2147483647 by omega)]
      refine zb_Wif (fun w4 => zb_Wpos it (zb_Wlet (zb_Wsome (zb_Wlet (go _ r.2 ?_ p2 fr))))) (fun w4 => zb_Wsome (zb_Wlet (go _ r.2 ?_ p2 fr)))
      · rw [eq]; unfold zb_clm; rw [if_pos ⟨w1, by omega, by omega, w4⟩, zb_i_sub, zb_365 (by omega) (by omega), zb_x_l, zb_x_l, zb_ti (by omega) (by omega), zb_ti (by omega) (by omega)]
      · rw [eq]; unfold zb_clm; rw [if_neg (fun z => by omega)]; rfl
    · refine go _ u ?_ hu.1 hu.2
      rw [eq]; unfold zb_clm; rw [if_neg (fun z => w1 z.1), zb_l0]
theorem zb_suit_M (h : zb_J1 N A B M O K LO LD LE td Q R T TK W WK Z ZK s) {a : Nat} (ha : a < 16) : zb_W (F_Mo_suit_b41 ss_F (zb_n a) (zb_i (zb_v K LO LD LE (-1) td 4)) (zb_i (zb_v K LO LD LE (-1) td 5)) (0 : Int64) (0 : Int32) s) (fun r => r.1 = zb_clms N A B M O K LO LD LE td R TK a T ∧ zb_J1 N A B M O K LO LD LE td Q R T TK W WK Z ZK r.2 ∧ zb_fr zb_ZP s r.2) := by
  have hW := h.1
  have hQ := hW.2.1
  have h80 := hW.2.2.2.1
  have td9 := hW.1
  have v4 := zb_v_rg h.2.1.2.1 (-1) td 4
  have v5 := zb_v_rg h.2.1.2.1 (-1) td 5
  refine zb_for (fun n t u => F_Mo_suit_b41 n (zb_n a) (zb_i (zb_v K LO LD LE (-1) td 4)) (zb_i (zb_v K LO LD LE (-1) td 5)) (zb_clms N A B M O K LO LD LE td R TK a t) (zb_n t) u) T (fun t u => zb_J1 N A B M O K LO LD LE td Q R T TK W WK Z ZK u ∧ zb_fr zb_ZP s u) ?_ ?_ ss_F 0 s (by omega) (by unfold ss_F; omega) ⟨h, zb_fr_refl _ _⟩
  · intro n u hu
    simp only [F_Mo_suit_b41]
    rw [hu.1.2.1.2.2.2.2.1.1]
    exact zb_Wpos (Int32.le_refl _) (zb_Wsome ⟨rfl, hu⟩)
  · intro n t u ht hu ih
    obtain ⟨k1, k2, k3, k4, k5⟩ := hW.2.2.2.2.1 t ht
    have r0 : (TK t 0).toNat < Q := by omega
    obtain ⟨_, _, m3, _⟩ := hW.2.2.1 _ r0
    have it : sv_ib (zb_n t) 80 = true := by rw [zb_ib_n (by omega)]; omega
    have ix : (zb_n t).toNatClampNeg = t := zb_n_ix (by omega)
    have row := hu.1.2.1.2.2.2.2.1.2 t ht
    have eq : zb_clms N A B M O K LO LD LE td R TK a (t + 1) = zb_clms N A B M O K LO LD LE td R TK a t + zb_clm N A B M O K LO LD LE td R TK a t := rfl
    have e0 : u.1 222 t = zb_n (TK t 0).toNat := by rw [← zb_in_n k1.1]; exact row 0 (by omega)
    have go : ∀ (y : Int64) (v : sv_S), y = zb_clms N A B M O K LO LD LE td R TK a (t + 1) → zb_J1 N A B M O K LO LD LE td Q R T TK W WK Z ZK v → zb_fr zb_ZP s v → zb_W (F_Mo_suit_b161 (F_Mo_suit_b41 n) (zb_n a) (zb_i (zb_v K LO LD LE (-1) td 4)) (zb_i (zb_v K LO LD LE (-1) td 5)) y (zb_n t) v) (fun r => r.1 = zb_clms N A B M O K LO LD LE td R TK a T ∧ zb_J1 N A B M O K LO LD LE td Q R T TK W WK Z ZK r.2 ∧ zb_fr zb_ZP s r.2) := by
      intro y v hy Jv fv
      unfold F_Mo_suit_b161
      refine zb_Wlet ?_
      rw [show zb_n t + (1 : Int32) = zb_n (t + 1) from zb_n_add t 1, hy]
      exact ih v ⟨Jv, fv⟩
    simp only [F_Mo_suit_b41]
    rw [hu.1.2.1.2.2.2.2.1.1]
    refine zb_Wneg (by rw [zb_n_le (by omega) (by omega)]; omega) (zb_Wpos it ?_)
    rw [ix, e0]
    refine zb_Wpos (by rw [zb_ib_n (by omega)]; omega) ?_
    rw [zb_n_ix (by omega), zb_fldM hu.1.2.1.2.2.2.1 r0 (f := 3) (c := 207) (by omega) (by omega) rfl, zb_n_i a, hu.1.2.1.2.2.1, zb_n_i td, zb_i_sub, show u.1 226 t = zb_i (TK t 4) from row 4 (by omega)]
    simp only [zb_i_eq (show -2147483648 ≤ R (TK t 0).toNat 3 by omega) (show R (TK t 0).toNat 3 ≤ 2147483647 by omega) (show -2147483648 ≤ (a : Int) by omega) (show (a : Int) ≤ 2147483647 by omega), zb_i_le (show -2147483648 ≤ (td : Int) - zb_v K LO LD LE (-1) td 4 by omega) (show (td : Int) - zb_v K LO LD LE (-1) td 4 ≤ 2147483647 by omega) (show -2147483648 ≤ TK t 4 by omega) (show TK t 4 ≤ 2147483647 by omega)]
    rw [← zb_n_i a]
    refine zb_Wif (fun w1 => zb_Wpos it (zb_Wif (fun w2 => ?_) (fun w2 => ?_))) (fun w1 => ?_)
    · refine zb_Wbind2 (zb_dueOf_M hu.1 ht) (fun r hr => ?_)
      obtain ⟨p1, p2, p3⟩ := hr
      have fr := zb_fr_trans hu.2 p3
      rw [p1]
      have du := zb_du_rg hW p2.2.1 ht
      have row2 := p2.2.1.2.2.2.2.1.2 t ht
      simp only [zb_sg1 (show -2147483648 ≤ zb_du N A B M O K LO LD LE R TK t by omega) (show zb_du N A B M O K LO LD LE R TK t ≤ 2147483647 by omega)]
      refine zb_Wif (fun w3 => go _ r.2 ?_ p2 fr) (fun w3 => zb_Wpos it ?_)
      · rw [eq]; unfold zb_clm; rw [if_neg (fun z => by omega), zb_l0]
      rw [show r.2.1 225 t = zb_i (TK t 3) from row2 3 (by omega), show r.2.1 226 t = zb_i (TK t 4) from row2 4 (by omega), p2.2.1.2.2.1, zb_n_i td, zb_i_sub, zb_i_sub]
      simp only [zb_i_lt (show -2147483648 ≤ zb_du N A B M O K LO LD LE R TK t by omega) (show zb_du N A B M O K LO LD LE R TK t ≤ 2147483647 by omega) (show -2147483648 ≤ TK t 3 by omega) (show TK t 3 ≤ 2147483647 by omega)]
      refine zb_Wif (fun w4 => zb_Wpos it (zb_Wlet (zb_Wpos it (zb_Wlet (go _ r.2 ?_ p2 fr))))) (fun w4 => go _ r.2 ?_ p2 fr)
      · rw [eq]; unfold zb_clm; rw [if_pos ⟨w1, by omega, by omega, w4⟩, zb_365 (by omega) (by omega), zb_x_l, zb_x_l, zb_ti (by omega) (by omega), zb_ti (by omega) (by omega)]
      · rw [eq]; unfold zb_clm; rw [if_neg (fun z => by omega), zb_l0]
    · refine go _ u ?_ hu.1 hu.2
      rw [eq]; unfold zb_clm; rw [if_neg (fun z => by omega), zb_l0]
    · refine go _ u ?_ hu.1 hu.2
      rw [eq]; unfold zb_clm; rw [if_neg (fun z => w1 z.1), zb_l0]
theorem zb_c_suit (h : zb_J s) : zb_m11 (F_X_suit x1 s) (F_Mo_suit x1) s := by
  obtain ⟨N, A, B, M, O, K, LO, LD, LE, td, Q, R, T, TK, W, WK, Z, ZK, h⟩ := h
  have hj := zb_J_of h
  have kr := zb_keep_refl s
  have td9 := h.1.1
  unfold zb_m11
  by_cases q : 0 ≤ x1.toInt ∧ x1.toInt ≤ 15
  rotate_left
  · simp only [F_X_suit, zb_g_station, Option.bind_some, zb_bz]
    rw [if_pos q]
    refine zb_Wsome ⟨kr, ?_⟩
    simp only [F_Mo_suit, zb_h_station, Option.bind_some, zb_bz]
    rw [if_pos q]
    exact zb_Wsome ⟨rfl, hj, kr⟩
  simp only [F_X_suit, zb_g_station, Option.bind_some, zb_bz]
  rw [if_neg (not_not_intro q), h.2.2.1.2.2.2.1]
  obtain ⟨a, ha, rfl⟩ := zb_an2 q
  refine zb_Wbind2 (zb_claims_X h (a := a) (by omega)) (fun r hr => zb_Wsome ?_)
  obtain ⟨r1, r2, r3⟩ := hr
  refine ⟨zb_keep_fx r3 rfl, ?_⟩
  simp only [F_Mo_suit, zb_h_station, Option.bind_some, zb_bz]
  rw [if_neg (not_not_intro q), r2.2.1.2.2.1, zb_m1, zb_n_i td]
  refine zb_Wbind2 (zb_look r2.2.1.2.1 (o := -1) (d := td) (by omega) (by omega) (by omega) (by omega)) (fun u hu => ?_)
  obtain ⟨u1, sm, ex, mv, _⟩ := hu
  have Ju := zb_J_M r2 u1 (by decide) (by decide)
  refine zb_Wpos (by decide) (zb_Wlet (zb_Wpos (by decide) (zb_Wlet ?_)))
  rw [show (3 : Int32).toNatClampNeg = 3 from rfl, show (4 : Int32).toNatClampNeg = 4 from rfl, mv.1 3 (by omega), mv.1 4 (by omega)]
  refine zb_Wmono (zb_suit_M Ju (a := a) (by omega)) (fun q hq => ⟨hq.1.trans r1.symm, zb_J_of hq.2.1, ?_⟩)
  exact zb_keep_trans (zb_keep_fx r3 rfl) (zb_keep_trans (zb_keep_fr u1 rfl) (zb_keep_fr hq.2.2 rfl))
end SUI
