/-! cry -/
section CRY
variable {N K td Q T W Z : Nat} {A B O ZK : Nat → Nat} {M LO LD : Nat → Int} {LE : Nat → List zb_EF} {R TK WK : Nat → Nat → Int} {s : sv_S}
variable {x1 x2 x3 x4 x5 x6 x7 : Int32}
/-- who pays less from farther off -/
def zb_cyp (D S : Nat → Int) (a o : Nat) : Prop := D o < 100000 ∧ D a < D o ∧ S o < zb_mu ∧ S o < S a
def zb_cyn (D S : Nat → Int) (a : Nat) : Nat → Nat
  | 0 => 0
  | o + 1 => zb_cyn D S a o + (if D o < 100000 ∧ D a < D o ∧ S o < zb_mu ∧ S o < S a then 1 else 0)
theorem zb_cyn_s1 {D S : Nat → Int} {a o : Nat} (h : D o < 100000 ∧ D a < D o ∧ S o < zb_mu ∧ S o < S a) : zb_cyn D S a (o + 1) = zb_cyn D S a o + 1 := by simp only [zb_cyn]; rw [if_pos h]
theorem zb_cyn_s0 {D S : Nat → Int} {a o : Nat} (h : ¬ (D o < 100000 ∧ D a < D o ∧ S o < zb_mu ∧ S o < S a)) : zb_cyn D S a (o + 1) = zb_cyn D S a o := by simp only [zb_cyn]; rw [if_neg h]; rfl
theorem zb_D_self (hL : zb_RL N A B M O) (o : Int) {a : Nat} (ha : a < 16) : zb_D N A B M O o a a = 0 := (zb_D_gr (O := O) hL.2.1 o).1.1 a ha
theorem zb_cry_X (h : zb_J1 N A B M O K LO LD LE td Q R T TK W WK Z ZK s) {f : Nat → Int} {a b L : Nat} {D S : Nat → Int} (hDe : ∀ o, o < 16 → zb_D N A B M O (-1) o b = D o) (hSe : zb_Sx f (fun r => (R r 3).toNat) (fun r => (R r 4).toNat) Q b 8 = S) (ha : a < 16) (hb : b < 16) (hR : zb_RW f (fun r => (R r 3).toNat) (fun r => (R r 4).toNat) Q b L s) (hD : D a < 100000) (hS : S a < zb_mu) :
    zb_W (F_X_cry_b102 ss_F (zb_n b) (zb_i (S a)) (zb_i (D a)) (0 : Int32) (0 : Int32) s) (fun r => r.1 = zb_n (zb_cyn D S a 16) ∧ r.2 = s) := by
  have hL := zb_RM_RL h.2.1.1
  have Dr : ∀ o, o < 16 → 0 ≤ D o ∧ D o ≤ 100000 := fun o ho => by have := zb_D_rg hL (-1) ho hb; rw [hDe o ho] at this; exact ⟨this.1, this.2.1⟩
  have Sr : ∀ o, 0 ≤ S o ∧ S o ≤ 1000000000 := fun o => by have := zb_Sx_mu (f := f) (Fr := fun r => (R r 3).toNat) (To := fun r => (R r 4).toNat) (Q := Q) (b := b) 8 o; rw [hSe] at this; exact this
  have lf : ∀ o, o < 16 → F_Ca_leastFrom (zb_n o) s = some (zb_i (if S o < zb_mu then S o else -1)) := fun o ho => by have := zb_leastFrom hR ho; rw [hSe] at this; exact this
  have bt : ∀ o, o < 16 → F_Ro_between (zb_i (-1)) (zb_n o) (zb_n b) s = some (zb_i (if D o < 100000 then D o else -1)) := fun o ho => by
    have := zb_between hL h.2.2.1.1 (o := -1) (by omega) (by omega) ho hb
    unfold zb_bt at this
    rw [hDe o ho] at this; exact this
  have Da := Dr a ha
  have Sa := Sr a
  refine zb_for (fun n o u => F_X_cry_b102 n (zb_n b) (zb_i (S a)) (zb_i (D a)) (zb_n (zb_cyn D S a o)) (zb_n o) u) 16 (fun o u => u = s) ?_ ?_ ss_F 0 s (by omega) (by unfold ss_F; omega) rfl
  · intro n u hu
    subst hu
    simp only [F_X_cry_b102]
    exact zb_Wpos (by rw [show (16 : Int32) = zb_n 16 from rfl]; exact Int32.le_refl _) (zb_Wsome ⟨rfl, rfl⟩)
  · intro n o u ho hu ih
    subst hu
    have ih := ih u rfl
    have Do := Dr o ho
    have So := Sr o
    simp only [F_X_cry_b102]
    refine zb_Wneg (by rw [show (16 : Int32) = zb_n 16 from rfl, zb_n_le (by omega) (by omega)]; omega) ?_
    rw [lf o ho, zb_m1, bt o ho]
    refine zb_Wbind (zb_Wsome (zb_Wbind (zb_Wsome ?_)))
    have go : ∀ z : Nat, z = zb_cyn D S a (o + 1) → zb_W (F_X_cry_b151 (F_X_cry_b102 n) (zb_n b) (zb_i (S a)) (zb_i (D a)) (zb_n z) (zb_n o) u) (fun r => r.1 = zb_n (zb_cyn D S a 16) ∧ r.2 = u) := by
      intro z hz
      unfold F_X_cry_b151
      refine zb_Wlet ?_
      rw [show zb_n o + (1 : Int32) = zb_n (o + 1) from zb_n_add o 1, hz]
      exact ih
    by_cases w1 : D o < 100000 ∧ D a < D o
    rotate_left
    · refine zb_Wpos ?_ (go _ (by rw [zb_cyn_s0 (fun z => w1 ⟨z.1, z.2.1⟩)]))
      by_cases w2 : D o < 100000
      · rw [if_pos w2, zb_i_le (by omega) (by omega) (by omega) (by omega)]; omega
      · rw [if_neg w2, zb_i_le (by omega) (by omega) (by omega) (by omega)]; omega
    rw [if_pos w1.1]
    refine zb_Wneg (by rw [zb_i_le (by omega) (by omega) (by omega) (by omega)]; omega) ?_
    by_cases w2 : S o < zb_mu
    rotate_left
    · rw [if_neg w2]
      refine zb_Wpos (by decide) (go _ (by rw [zb_cyn_s0 (fun z => w2 z.2.2.1)]))
    rw [if_pos w2]
    refine zb_Wneg (zb_ge0' So.1 (by omega)) ?_
    simp only [zb_i_le (show -2147483648 ≤ S a by omega) (show S a ≤ 2147483647 by omega) (show -2147483648 ≤ S o by omega) (show S o ≤ 2147483647 by omega)]
    refine zb_Wif (fun w3 => go _ (by rw [zb_cyn_s0 (fun z => by have := z.2.2.2; omega)])) (fun w3 => zb_Wlet ?_)
    rw [show zb_n (zb_cyn D S a o) + (1 : Int32) = zb_n (zb_cyn D S a o + 1) from zb_n_add _ 1]
    exact go _ (by rw [zb_cyn_s1 ⟨w1.1, w1.2, w2, by omega⟩])
theorem zb_cry_M (h : zb_J1 N A B M O K LO LD LE td Q R T TK W WK Z ZK s) {f : Nat → Int} {a b : Nat} (ha : a < 16) (hb : b < 16) (hC : zb_RCM Q (fun r => (R r 3).toNat) (fun r => (R r 4).toNat) (fun r => (R r 2).toNat) f s) (hG : zb_gd s 192 (zb_D N A B M O (-1))) (hD : zb_D N A B M O (-1) a b < 100000) (hS : zb_Sx f (fun r => (R r 3).toNat) (fun r => (R r 4).toNat) Q b 8 a < zb_mu) :
    zb_W (F_Mo_cry_b102 ss_F (zb_n a) (zb_n b) (zb_i (zb_Sx f (fun r => (R r 3).toNat) (fun r => (R r 4).toNat) Q b 8 a)) (0 : Int32) (0 : Int32) s) (fun r => r.1 = zb_n (zb_cyn (fun o => zb_D N A B M O (-1) o b) (zb_Sx f (fun r => (R r 3).toNat) (fun r => (R r 4).toNat) Q b 8) a 16) ∧ zb_fr zb_ZS s r.2) := by
  have hL := zb_RM_RL h.2.1.1
  have Da := zb_D_rg hL (-1) ha hb
  have Db := zb_D_rg hL (-1) hb hb
  have dbb : zb_D N A B M O (-1) b b = 0 := zb_D_self hL (-1) hb
  have ma := zb_Sx_mu (f := f) (Fr := fun r => (R r 3).toNat) (To := fun r => (R r 4).toNat) (Q := Q) (b := b) 8 a
  refine zb_for (fun n o u => F_Mo_cry_b102 n (zb_n a) (zb_n b) (zb_i (zb_Sx f (fun r => (R r 3).toNat) (fun r => (R r 4).toNat) Q b 8 a)) (zb_n (zb_cyn (fun o => zb_D N A B M O (-1) o b) (zb_Sx f (fun r => (R r 3).toNat) (fun r => (R r 4).toNat) Q b 8) a o)) (zb_n o) u) 16 (fun o u => zb_fr zb_ZS s u) ?_ ?_ ss_F 0 s (by omega) (by unfold ss_F; omega) (zb_fr_refl _ _)
  · intro n u hu
    simp only [F_Mo_cry_b102]
    exact zb_Wpos (by rw [show (16 : Int32) = zb_n 16 from rfl]; exact Int32.le_refl _) (zb_Wsome ⟨rfl, hu⟩)
  · intro n o u ho hu ih
    have Do := zb_D_rg hL (-1) ho hb
    have mo := zb_Sx_mu (f := f) (Fr := fun r => (R r 3).toNat) (To := fun r => (R r 4).toNat) (Q := Q) (b := b) 8 o
    have io : sv_ib (zb_n (16 * o + b)) 256 = true := by rw [zb_ib_n (by omega)]; omega
    have ia : sv_ib (zb_n (16 * a + b)) 256 = true := by rw [zb_ib_n (by omega)]; omega
    have go : ∀ (z : Nat) (v : sv_S), z = zb_cyn (fun o => zb_D N A B M O (-1) o b) (zb_Sx f (fun r => (R r 3).toNat) (fun r => (R r 4).toNat) Q b 8) a (o + 1) → zb_fr zb_ZS s v → zb_W (F_Mo_cry_b185 (F_Mo_cry_b102 n) (zb_n a) (zb_n b) (zb_i (zb_Sx f (fun r => (R r 3).toNat) (fun r => (R r 4).toNat) Q b 8 a)) (zb_n z) (zb_n o) v) (fun r => r.1 = zb_n (zb_cyn (fun o => zb_D N A B M O (-1) o b) (zb_Sx f (fun r => (R r 3).toNat) (fun r => (R r 4).toNat) Q b 8) a 16) ∧ zb_fr zb_ZS s r.2) := by
      intro z v hz hv
      unfold F_Mo_cry_b185
      refine zb_Wlet ?_
      rw [show zb_n o + (1 : Int32) = zb_n (o + 1) from zb_n_add o 1, hz]
      exact ih v hv
    simp only [F_Mo_cry_b102]
    rw [show (16 : Int32) * zb_n o + zb_n b = zb_n (16 * o + b) by rw [show (16 : Int32) = zb_n 16 from rfl, zb_n_mul, zb_n_add], show (16 : Int32) * zb_n a + zb_n b = zb_n (16 * a + b) by rw [show (16 : Int32) = zb_n 16 from rfl, zb_n_mul, zb_n_add]]
    refine zb_Wneg (by rw [show (16 : Int32) = zb_n 16 from rfl, zb_n_le (by omega) (by omega)]; omega) (zb_Wpos io ?_)
    rw [zb_n_ix (by omega), zb_n_ix (by omega), hu.1 192 _ rfl, hu.1 192 _ rfl, hG o b ho hb, hG a b ha hb, show (100000 : Int32) = zb_i 100000 from zb_n_i 100000]
    simp only [zb_i_le (show -2147483648 ≤ (100000 : Int) by omega) (show (100000 : Int) ≤ 2147483647 by omega) (show -2147483648 ≤ zb_D N A B M O (-1) o b by omega) (show zb_D N A B M O (-1) o b ≤ 2147483647 by omega), zb_i_le (show -2147483648 ≤ zb_D N A B M O (-1) o b by omega) (show zb_D N A B M O (-1) o b ≤ 2147483647 by omega) (show -2147483648 ≤ zb_D N A B M O (-1) a b by omega) (show zb_D N A B M O (-1) a b ≤ 2147483647 by omega)]
    refine zb_Wif (fun w => go _ u (by rw [zb_cyn_s0 (fun z => by have := z.1; omega)]) hu) (fun w1 => zb_Wpos io (zb_Wpos ia ?_))
    refine zb_Wif (fun w => go _ u (by rw [zb_cyn_s0 (fun z => by have := z.2.1; omega)]) hu) (fun w2 => ?_)
    have ne : o ≠ b := fun z => by rw [z, dbb] at w2; omega
    refine zb_Wbind2 (zb_sumUp (zb_RCM_fr hC hu (by decide)) ho hb ne) (fun r hr => ?_)
    obtain ⟨c0, c1, c2⟩ := hr
    have fr := zb_fr_trans hu c0
    rw [c1]
    generalize hSo : zb_Sx f (fun r => (R r 3).toNat) (fun r => (R r 4).toNat) Q b 8 = S at *
    by_cases w3 : S o < zb_mu
    rotate_left
    · exact zb_Wpos (zb_bF w3) (go _ r.2 (by rw [zb_cyn_s0 (fun z => w3 z.2.2.1)]) fr)
    refine zb_Wneg (zb_bT w3) ?_
    rw [(c2 w3).2.1]
    have w3' := w3
    unfold zb_mu at mo ma w3'
    simp only [zb_i_le (show -2147483648 ≤ S a by omega) (show S a ≤ 2147483647 by omega) (show -2147483648 ≤ S o by omega) (show S o ≤ 2147483647 by omega)]
    unfold F_Mo_cry_b182
    refine zb_Wif (fun w4 => zb_Wlet ?_) (fun w4 => zb_Wlet ?_)
    · rw [show zb_n (zb_cyn (fun o => zb_D N A B M O (-1) o b) S a o) + (0 : Int32) = zb_n (zb_cyn (fun o => zb_D N A B M O (-1) o b) S a o) from zb_n_add _ 0]
      exact go _ r.2 (by rw [zb_cyn_s0 (fun z => by have := z.2.2.2; omega)]) fr
    · rw [show zb_n (zb_cyn (fun o => zb_D N A B M O (-1) o b) S a o) + (1 : Int32) = zb_n (zb_cyn (fun o => zb_D N A B M O (-1) o b) S a o + 1) from zb_n_add _ 1]
      exact go _ r.2 (by rw [zb_cyn_s1 ⟨by omega, by omega, w3, by omega⟩]) fr
theorem zb_c_cry (h : zb_J s) : zb_m11 (F_X_cry x1 x2 x3 x4 x5 s) (F_Mo_cry x1 x2 x3 x4 x5) s := by
  obtain ⟨N, A, B, M, O, K, LO, LD, LE, td, Q, R, T, TK, W, WK, Z, ZK, h⟩ := h
  have hW := h.1
  have hQ := hW.2.1
  have hL := zb_RM_RL h.2.1.1
  refine zb_m11_of (v := if ¬ (0 ≤ x1.toInt ∧ x1.toInt ≤ 15) then (-1 : Int32) else if ¬ (0 ≤ x2.toInt ∧ x2.toInt ≤ 15) then (-1 : Int32) else if ¬ (0 ≤ x3.toInt ∧ x3.toInt ≤ 19) then (-1 : Int32) else if x1 = x2 then (-2 : Int32) else if ¬ (1 ≤ x4.toInt ∧ x4.toInt ≤ 99) then (-2 : Int32) else if ¬ (0 ≤ x5.toInt ∧ x5.toInt ≤ 9999) then (-2 : Int32) else if zb_D N A B M O (-1) x1.toInt.toNat x2.toInt.toNat < 100000 ∧ zb_Sx (fun r => zb_fee N A B M O K LO LD LE (R r) (R r 5) x3.toInt.toNat x4.toInt x5.toInt) (fun r => (R r 3).toNat) (fun r => (R r 4).toNat) Q x2.toInt.toNat 8 x1.toInt.toNat < zb_mu then zb_n (zb_cyn (fun o => zb_D N A B M O (-1) o x2.toInt.toNat) (zb_Sx (fun r => zb_fee N A B M O K LO LD LE (R r) (R r 5) x3.toInt.toNat x4.toInt x5.toInt) (fun r => (R r 3).toNat) (fun r => (R r 4).toNat) Q x2.toInt.toNat 8) x1.toInt.toNat 16) else (-3 : Int32)) (N := N) (A := A) (B := B) (M := M) (O := O) (K := K) (LO := LO) (LD := LD) (LE := LE) (td := td) (Q := Q) (R := R) (T := T) (TK := TK) (W := W) (WK := WK) (Z := Z) (ZK := ZK) ?_ (fun u hu => ?_)
  · have kr := zb_keep_refl s
    simp only [F_X_cry, zb_g_owner, zb_g_station, zb_g_good, zb_g_tape, zb_g_day, zb_g_tons, zb_g_stations, zb_g_no1, zb_h_owner, zb_h_station, zb_h_good, zb_h_day, zb_h_tons, zb_h_tape, zb_h_inL, Option.bind_some, zb_bz, Int32.reduceToInt, zb_m1t, zb_m3t]
    by_cases q1 : 0 ≤ x1.toInt ∧ x1.toInt ≤ 15
    rotate_left
    · simp only [q1, and_false, false_and, and_true, true_and, and_self, not_true, not_false_iff, if_false, if_true]; exact (zb_Wsome ⟨rfl, h, kr⟩)
    by_cases q2 : 0 ≤ x2.toInt ∧ x2.toInt ≤ 15
    rotate_left
    · simp only [q1, q2, and_false, false_and, and_true, true_and, and_self, not_true, not_false_iff, if_false, if_true]; exact (zb_Wsome ⟨rfl, h, kr⟩)
    by_cases q3 : 0 ≤ x3.toInt ∧ x3.toInt ≤ 19
    rotate_left
    · simp only [q1, q2, q3, and_false, false_and, and_true, true_and, and_self, not_true, not_false_iff, if_false, if_true]; exact (zb_Wsome ⟨rfl, h, kr⟩)
    simp only [q1, q2, q3, and_false, false_and, and_true, true_and, and_self, not_true, not_false_iff, if_false, if_true]
    by_cases q5 : x1 = x2
    · rw [if_pos q5, if_pos q5]; exact zb_Wsome ⟨rfl, h, kr⟩
    rw [if_neg q5, if_neg q5]
    by_cases q6 : 1 ≤ x4.toInt ∧ x4.toInt ≤ 99
    rotate_left
    · simp only [q6, and_false, false_and, and_true, true_and, and_self, not_true, not_false_iff, if_false, if_true]; exact (zb_Wsome ⟨rfl, h, kr⟩)
    by_cases q7 : 0 ≤ x5.toInt ∧ x5.toInt ≤ 9999
    rotate_left
    · simp only [q6, q7, and_false, false_and, and_true, true_and, and_self, not_true, not_false_iff, if_false, if_true]; exact (zb_Wsome ⟨rfl, h, kr⟩)
    simp only [q6, q7, and_false, false_and, and_true, true_and, and_self, not_true, not_false_iff, if_false, if_true]
    have hf := zb_fJ h (g := x3.toInt.toNat) (d := x5.toInt) q6.1 q6.2
    conv => lhs; rw [zb_an q1.1, zb_an q2.1, zb_an q3.1, zb_i_of x4, zb_i_of x5]
    refine zb_Wbind2 (zb_carry_X (b := 0) h (by omega) q6.1 q6.2 q7.1 q7.2) (fun u hu => ?_)
    obtain ⟨u1, u2, u3⟩ := hu
    refine zb_Wbind2 (zb_reach_X u1 (fun r hr => (hf r hr).2) u3 (by omega)) (fun v hv => ?_)
    obtain ⟨v1, v2, v3, L, v4⟩ := hv
    have kv : zb_keep s v := zb_keep_trans (zb_keep_fx u2 rfl) (zb_keep_fr v2 rfl)
    have Da := zb_D_rg hL (-1) (a := x1.toInt.toNat) (b := x2.toInt.toNat) (by omega) (by omega)
    rw [zb_leastFrom v4 (by omega), zb_m1, zb_between hL v1.2.2.1.1 (by omega) (by omega) (by omega) (by omega)]
    refine zb_Wbind (zb_Wsome (zb_Wbind (zb_Wsome ?_)))
    have ma := zb_Sx_mu (f := fun r => zb_fee N A B M O K LO LD LE (R r) (R r 5) x3.toInt.toNat x4.toInt x5.toInt) (Fr := fun r => (R r 3).toNat) (To := fun r => (R r 4).toNat) (Q := Q) (b := x2.toInt.toNat) 8 x1.toInt.toNat
    by_cases w1 : zb_Sx (fun r => zb_fee N A B M O K LO LD LE (R r) (R r 5) x3.toInt.toNat x4.toInt x5.toInt) (fun r => (R r 3).toNat) (fun r => (R r 4).toNat) Q x2.toInt.toNat 8 x1.toInt.toNat < zb_mu
    rotate_left
    · rw [if_neg w1]
      refine zb_Wpos (by decide) (zb_Wsome ⟨?_, v1, kv⟩)
      rw [if_neg (fun z => w1 z.2)]
    rw [if_pos w1]
    refine zb_Wneg (zb_ge0' ma.1 (by unfold zb_mu at ma; omega)) ?_
    unfold zb_bt
    by_cases w2 : zb_D N A B M O (-1) x1.toInt.toNat x2.toInt.toNat < 100000
    rotate_left
    · rw [if_neg w2]
      refine zb_Wneg (by decide) (zb_Wsome ⟨?_, v1, kv⟩)
      rw [if_neg (fun z => w2 z.1)]
    rw [if_pos w2]
    refine zb_Wpos (zb_ge0 Da.1 (by omega)) ?_
    refine zb_Wmono (zb_cry_X (D := fun o => zb_D N A B M O (-1) o x2.toInt.toNat) v1 (fun _ _ => rfl) rfl (by omega) (by omega) v4 w2 w1) (fun r hr => ?_)
    refine ⟨?_, by rw [hr.2]; exact v1, by rw [hr.2]; exact kv⟩
    rw [hr.1, if_pos ⟨w2, w1⟩]
  · have kr := zb_keep_refl u
    simp only [F_Mo_cry, zb_g_owner, zb_g_station, zb_g_good, zb_g_tape, zb_g_day, zb_g_tons, zb_g_stations, zb_g_no1, zb_h_owner, zb_h_station, zb_h_good, zb_h_day, zb_h_tons, zb_h_tape, zb_h_inL, Option.bind_some, zb_bz, Int32.reduceToInt, zb_m1t, zb_m3t]
    by_cases q1 : 0 ≤ x1.toInt ∧ x1.toInt ≤ 15
    rotate_left
    · simp only [q1, and_false, false_and, and_true, true_and, and_self, not_true, not_false_iff, if_false, if_true]; exact (zb_Wsome ⟨rfl, hu, kr⟩)
    by_cases q2 : 0 ≤ x2.toInt ∧ x2.toInt ≤ 15
    rotate_left
    · simp only [q1, q2, and_false, false_and, and_true, true_and, and_self, not_true, not_false_iff, if_false, if_true]; exact (zb_Wsome ⟨rfl, hu, kr⟩)
    by_cases q3 : 0 ≤ x3.toInt ∧ x3.toInt ≤ 19
    rotate_left
    · simp only [q1, q2, q3, and_false, false_and, and_true, true_and, and_self, not_true, not_false_iff, if_false, if_true]; exact (zb_Wsome ⟨rfl, hu, kr⟩)
    simp only [q1, q2, q3, and_false, false_and, and_true, true_and, and_self, not_true, not_false_iff, if_false, if_true]
    by_cases q5 : x1 = x2
    · rw [if_pos q5, if_pos q5]; exact zb_Wsome ⟨rfl, hu, kr⟩
    rw [if_neg q5, if_neg q5]
    by_cases q6 : 1 ≤ x4.toInt ∧ x4.toInt ≤ 99
    rotate_left
    · simp only [q6, and_false, false_and, and_true, true_and, and_self, not_true, not_false_iff, if_false, if_true]; exact (zb_Wsome ⟨rfl, hu, kr⟩)
    by_cases q7 : 0 ≤ x5.toInt ∧ x5.toInt ≤ 9999
    rotate_left
    · simp only [q6, q7, and_false, false_and, and_true, true_and, and_self, not_true, not_false_iff, if_false, if_true]; exact (zb_Wsome ⟨rfl, hu, kr⟩)
    simp only [q6, q7, and_false, false_and, and_true, true_and, and_self, not_true, not_false_iff, if_false, if_true]
    have ne : x1.toInt.toNat ≠ x2.toInt.toNat := fun z => q5 (Int32.toInt_inj.mp (by omega))
    have Da := zb_D_rg hL (-1) (a := x1.toInt.toNat) (b := x2.toInt.toNat) (by omega) (by omega)
    conv => lhs; rw [zb_an q1.1, zb_an q2.1, zb_an q3.1, zb_i_of x4, zb_i_of x5]
    refine zb_Wbind2 (zb_prepare hW hu.2.1 q7.1 q7.2) (fun p hp => ?_)
    have J2 := zb_J_M hu hp.1 (by decide) (by decide)
    rw [zb_m1]
    refine zb_Wbind2 (zb_milesBy J2.2.1 (o := -1) (by omega) (by omega) (by omega) (by omega)) (fun q hq => ?_)
    obtain ⟨q8, q9⟩ := hq
    have J3 := zb_J_M J2 q8 (by decide) (by decide)
    have k3 : zb_keep u q.2 := zb_keep_trans (zb_keep_fr hp.1 rfl) (zb_keep_fr q8 rfl)
    rw [q9]
    by_cases w2 : zb_D N A B M O (-1) x1.toInt.toNat x2.toInt.toNat < 100000
    rotate_left
    · rw [if_neg w2]
      refine zb_Wpos (by decide) (zb_Wsome ⟨?_, J3, k3⟩)
      rw [if_neg (fun z => w2 z.1)]
    rw [if_pos w2]
    refine zb_Wneg (zb_ge0' Da.1 (by omega)) ?_
    refine zb_Wbind2 (zb_findCheap J3 (zb_PP_fr hp.2 q8 (by decide)) (by omega) (by omega) ne (by omega) q6.1 q6.2 q7.1 q7.2) (fun r hr => ?_)
    obtain ⟨r1, r2, r3, r4, t, _, c1, c2⟩ := hr
    have k4 := zb_keep_trans k3 (zb_keep_fr r3 rfl)
    rw [c1]
    by_cases w1 : zb_Sx (fun r => zb_fee N A B M O K LO LD LE (R r) (R r 5) x3.toInt.toNat x4.toInt x5.toInt) (fun r => (R r 3).toNat) (fun r => (R r 4).toNat) Q x2.toInt.toNat 8 x1.toInt.toNat < zb_mu
    rotate_left
    · refine zb_Wpos (zb_bF w1) (zb_Wsome ⟨?_, r1, k4⟩)
      rw [if_neg (fun z => w1 z.2)]
    refine zb_Wneg (zb_bT w1) (zb_Wlet ?_)
    rw [(c2 w1).2.1]
    refine zb_Wbind2 (zb_findFar (o := -1) (by omega) (by omega) r1.2.1.1) (fun y hy => ?_)
    have J5 := zb_J_M r1 hy.1 (by decide) (by decide)
    refine zb_Wmono (zb_cry_M J5 (by omega) (by omega) (zb_RCM_fr r4 hy.1 (by decide)) hy.2.2 w2 w1) (fun z hz => ?_)
    refine ⟨?_, zb_J_M J5 hz.2 (by decide) (by decide), zb_keep_trans k4 (zb_keep_trans (zb_keep_fr hy.1 rfl) (zb_keep_fr hz.2 rfl))⟩
    rw [hz.1, if_pos ⟨w2, w1⟩]
end CRY
