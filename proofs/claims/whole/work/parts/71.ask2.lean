/-! calls that ask: charge, most, of, due -/
theorem zb_hasL {x v : Int32} {Q : Nat} (e : v = zb_n Q) (hQ : Q ≤ 1000) : (if x < (0 : Int32) then some (0 : Int32) else if v ≤ x then some (0 : Int32) else some (1 : Int32)) = some (zb_b (decide (0 ≤ x.toInt ∧ x.toInt < Q))) := by
  rw [e, show (0 : Int32) = zb_n 0 from rfl, show (1 : Int32) = zb_n 1 from rfl]
  by_cases q : x.toInt < 0
  · rw [if_pos (by rw [zb_c_ltn (by omega)]; omega), decide_eq_false (by omega)]; rfl
  · rw [if_neg (by rw [zb_c_ltn (by omega)]; omega)]
    by_cases q2 : (Q : Int) ≤ x.toInt
    · rw [if_pos (by rw [zb_n_lec (by omega)]; omega), decide_eq_false (by omega)]; rfl
    · rw [if_neg (by rw [zb_n_lec (by omega)]; omega), decide_eq_true (by omega)]; rfl
theorem zb_isnL {x v : Int32} {Q : Nat} {s : sv_S} (e : v = zb_n Q) (hQ : Q ≤ 1000) : F_Mo_in x (0 : Int32) (v - (1 : Int32)) s = some (zb_b (decide (0 ≤ x.toInt ∧ x.toInt < Q))) := by
  rw [e, zb_h_in (a := 0) (b := (Q : Int) - 1) rfl (by rw [show (1 : Int32) = zb_i 1 from zb_n_i 1, zb_n_i, zb_i_sub, zb_ti (by omega) (by omega)])]
  congr 2
  exact decide_eq_decide.mpr (by omega)
section ASK2
variable {N K td Q T W Z : Nat} {A B O ZK : Nat → Nat} {M LO LD : Nat → Int} {LE : Nat → List zb_EF} {R TK WK : Nat → Nat → Int} {s : sv_S}
variable {x1 x2 x3 x4 x5 x6 x7 : Int32}
theorem zb_g_rate (h : zb_MX N A B M O K LO LD LE td Q R T TK W WK Z ZK s) (hQ : Q ≤ 60) : F_Rs_has x1 s = some (zb_b (decide (0 ≤ x1.toInt ∧ x1.toInt < Q))) := zb_hasL h.2.2.2.2.1.1 (by omega)
theorem zb_g_truck (h : zb_MX N A B M O K LO LD LE td Q R T TK W WK Z ZK s) (hT : T ≤ 80) : F_Tr_has x1 s = some (zb_b (decide (0 ≤ x1.toInt ∧ x1.toInt < T))) := zb_hasL h.2.2.2.2.2.1.1 (by omega)
theorem zb_g_want (h : zb_MX N A B M O K LO LD LE td Q R T TK W WK Z ZK s) (hT : W ≤ 20) : F_Wa_has x1 s = some (zb_b (decide (0 ≤ x1.toInt ∧ x1.toInt < W))) := zb_hasL h.2.2.2.2.2.2.1.1 (by omega)
theorem zb_h_rate (h : zb_MM N A B M O K LO LD LE td Q R T TK W WK Z ZK s) (hQ : Q ≤ 60) : F_Mo_isRate x1 s = some (zb_b (decide (0 ≤ x1.toInt ∧ x1.toInt < Q))) := zb_h_bl (zb_isnL h.2.2.2.1.1 (by omega))
theorem zb_h_truck (h : zb_MM N A B M O K LO LD LE td Q R T TK W WK Z ZK s) (hT : T ≤ 80) : F_Mo_isTruck x1 s = some (zb_b (decide (0 ≤ x1.toInt ∧ x1.toInt < T))) := zb_h_bl (zb_isnL h.2.2.2.2.1.1 (by omega))
/-- what one side leaves when it is only asked -/
def zb_ans (N : Nat) (A B : Nat → Nat) (M : Nat → Int) (O : Nat → Nat) (K : Nat) (LO LD : Nat → Int) (LE : Nat → List zb_EF) (td Q : Nat) (R : Nat → Nat → Int) (T : Nat) (TK : Nat → Nat → Int) (W : Nat) (WK : Nat → Nat → Int) (Z : Nat) (ZK : Nat → Nat) (s : sv_S) (v : Int32) (r : Int32 × sv_S) : Prop := r.1 = v ∧ zb_J1 N A B M O K LO LD LE td Q R T TK W WK Z ZK r.2 ∧ zb_keep s r.2
theorem zb_m11_of {v : Int32} {x : Option (Int32 × sv_S)} {m : sv_S → Option (Int32 × sv_S)} (hx : zb_W x (zb_ans N A B M O K LO LD LE td Q R T TK W WK Z ZK s v)) (hm : ∀ u, zb_J1 N A B M O K LO LD LE td Q R T TK W WK Z ZK u → zb_W (m u) (zb_ans N A B M O K LO LD LE td Q R T TK W WK Z ZK u v)) : zb_m11 x m s := by
  refine zb_Wmono hx (fun r hr => ⟨hr.2.2, zb_Wmono (hm r.2 hr.2.1) (fun q hq => ⟨by rw [hq.1, hr.1], zb_J_of hq.2.1, zb_keep_trans hr.2.2 hq.2.2⟩)⟩)
theorem zb_an3 {x : Int32} {b : Nat} (h : 0 ≤ x.toInt ∧ x.toInt < b) : ∃ a : Nat, a < b ∧ x = zb_n a := ⟨x.toInt.toNat, by omega, zb_an h.1⟩
theorem zb_vJ (h : zb_LM K LO LD LE s) (d : Int) : ∀ o w, 0 ≤ zb_v K LO LD LE o d w ∧ zb_v K LO LD LE o d w ≤ 9999 := fun o w => ⟨(zb_v_rg h o d w).1, (zb_v_rg h o d w).2.1⟩
theorem zb_c_charge (h : zb_J s) : zb_m11 (F_X_charge x1 x2 x3 x4 s) (F_Mo_charge x1 x2 x3 x4) s := by
  obtain ⟨N, A, B, M, O, K, LO, LD, LE, td, Q, R, T, TK, W, WK, Z, ZK, h⟩ := h
  have hW := h.1
  have hQ := hW.2.1
  refine zb_m11_of (v := if ¬ (0 ≤ x1.toInt ∧ x1.toInt < Q) then (-1 : Int32) else if ¬ (0 ≤ x2.toInt ∧ x2.toInt ≤ 19) then (-1 : Int32) else if ¬ (1 ≤ x3.toInt ∧ x3.toInt ≤ 99) then (-2 : Int32) else if ¬ (0 ≤ x4.toInt ∧ x4.toInt ≤ 9999) then (-2 : Int32) else if 0 ≤ zb_fee N A B M O K LO LD LE (R x1.toInt.toNat) (R x1.toInt.toNat 5) x2.toInt.toNat x3.toInt x4.toInt then zb_i (zb_fee N A B M O K LO LD LE (R x1.toInt.toNat) (R x1.toInt.toNat 5) x2.toInt.toNat x3.toInt x4.toInt) else (-3 : Int32)) (N := N) (A := A) (B := B) (M := M) (O := O) (K := K) (LO := LO) (LD := LD) (LE := LE) (td := td) (Q := Q) (R := R) (T := T) (TK := TK) (W := W) (WK := WK) (Z := Z) (ZK := ZK) ?_ (fun u hu => ?_)
  · have kr := zb_keep_refl s
    simp only [F_X_charge, zb_g_rate h.2.2.1 hQ, zb_g_owner, zb_g_station, zb_g_good, zb_g_tape, zb_g_day, zb_g_tons, zb_g_stations, zb_g_no1, zb_h_owner, zb_h_station, zb_h_good, zb_h_day, zb_h_tons, zb_h_tape, zb_h_inL, Option.bind_some, zb_bz, Int32.reduceToInt, zb_m1t, zb_m3t]
    by_cases q1 : 0 ≤ x1.toInt ∧ x1.toInt < Q
    rotate_left
    · simp only [q1, and_false, false_and, and_true, true_and, and_self, not_true, not_false_iff, if_false, if_true]; exact (zb_Wsome ⟨rfl, h, kr⟩)
    by_cases q2 : 0 ≤ x2.toInt ∧ x2.toInt ≤ 19
    rotate_left
    · simp only [q1, q2, and_false, false_and, and_true, true_and, and_self, not_true, not_false_iff, if_false, if_true]; exact (zb_Wsome ⟨rfl, h, kr⟩)
    by_cases q3 : 1 ≤ x3.toInt ∧ x3.toInt ≤ 99
    rotate_left
    · simp only [q1, q2, q3, and_false, false_and, and_true, true_and, and_self, not_true, not_false_iff, if_false, if_true]; exact (zb_Wsome ⟨rfl, h, kr⟩)
    by_cases q4 : 0 ≤ x4.toInt ∧ x4.toInt ≤ 9999
    rotate_left
    · simp only [q1, q2, q3, q4, and_false, false_and, and_true, true_and, and_self, not_true, not_false_iff, if_false, if_true]; exact (zb_Wsome ⟨rfl, h, kr⟩)
    simp only [q1, q2, q3, q4, and_false, false_and, and_true, true_and, and_self, not_true, not_false_iff, if_false, if_true]
    have rk := hW.2.2.1 x1.toInt.toNat (by omega)
    have p := rk.2.2.2.2.2.1
    have fr := zb_fee_rg2 (zb_RM_RL h.2.1.1) rk (g := x2.toInt.toNat) p.1 p.2.1 p.2.2 q3.1 q3.2 (zb_vJ h.2.1.2.1 x4.toInt)
    conv => lhs; rw [zb_an q1.1, zb_an q2.1, zb_i_of x3, zb_i_of x4]
    rw [zb_row (by omega)]
    refine zb_Wbind (zb_Wsome (zb_Wpos (zb_ok91 (by omega)) ?_))
    rw [zb_fld h.2.2.1 (show x1.toInt.toNat < Q by omega) (f := 5) (by omega) (by omega)]
    refine zb_Wbind2 (zb_fee_X hW (zb_RM_RL h.2.1.1) h.2.1.2.1 h.2.2.1 (show x1.toInt.toNat < Q by omega) p.1 p.2.1 (show x2.toInt.toNat < 20 by omega) q3.1 q3.2 q4.1 q4.2) (fun v hv => ?_)
    obtain ⟨v1, v2, v3⟩ := hv
    have J2 := zb_J_X h v2 v3 (by decide)
    have k2 : zb_keep s v.2 := zb_keep_fx v3 rfl
    rw [v1]
    have z : ((0 : Int32) ≤ zb_i (zb_fee N A B M O K LO LD LE (R x1.toInt.toNat) (R x1.toInt.toNat 5) x2.toInt.toNat x3.toInt x4.toInt)) = (0 ≤ zb_fee N A B M O K LO LD LE (R x1.toInt.toNat) (R x1.toInt.toNat 5) x2.toInt.toNat x3.toInt x4.toInt) := by rw [show (0 : Int32) = zb_i 0 from zb_n_i 0]; exact zb_i_le (by omega) (by omega) (by omega) (by omega)
    simp only [z]
    refine zb_Wif (fun w => zb_Wsome ⟨by rw [if_pos w], J2, k2⟩) (fun w => zb_Wsome ⟨by rw [if_neg w], J2, k2⟩)
  · have kr := zb_keep_refl u
    simp only [F_Mo_charge, zb_h_rate hu.2.1 hQ, zb_g_owner, zb_g_station, zb_g_good, zb_g_tape, zb_g_day, zb_g_tons, zb_g_stations, zb_g_no1, zb_h_owner, zb_h_station, zb_h_good, zb_h_day, zb_h_tons, zb_h_tape, zb_h_inL, Option.bind_some, zb_bz, Int32.reduceToInt, zb_m1t, zb_m3t]
    by_cases q1 : 0 ≤ x1.toInt ∧ x1.toInt < Q
    rotate_left
    · simp only [q1, and_false, false_and, and_true, true_and, and_self, not_true, not_false_iff, if_false, if_true]; exact (zb_Wsome ⟨rfl, hu, kr⟩)
    by_cases q2 : 0 ≤ x2.toInt ∧ x2.toInt ≤ 19
    rotate_left
    · simp only [q1, q2, and_false, false_and, and_true, true_and, and_self, not_true, not_false_iff, if_false, if_true]; exact (zb_Wsome ⟨rfl, hu, kr⟩)
    by_cases q3 : 1 ≤ x3.toInt ∧ x3.toInt ≤ 99
    rotate_left
    · simp only [q1, q2, q3, and_false, false_and, and_true, true_and, and_self, not_true, not_false_iff, if_false, if_true]; exact (zb_Wsome ⟨rfl, hu, kr⟩)
    by_cases q4 : 0 ≤ x4.toInt ∧ x4.toInt ≤ 9999
    rotate_left
    · simp only [q1, q2, q3, q4, and_false, false_and, and_true, true_and, and_self, not_true, not_false_iff, if_false, if_true]; exact (zb_Wsome ⟨rfl, hu, kr⟩)
    simp only [q1, q2, q3, q4, and_false, false_and, and_true, true_and, and_self, not_true, not_false_iff, if_false, if_true]
    have rk := hW.2.2.1 x1.toInt.toNat (by omega)
    have p := rk.2.2.2.2.2.1
    have fr := zb_fee_rg2 (zb_RM_RL hu.2.1.1) rk (g := x2.toInt.toNat) p.1 p.2.1 p.2.2 q3.1 q3.2 (zb_vJ hu.2.1.2.1 x4.toInt)
    conv => lhs; rw [zb_an q1.1, zb_an q2.1, zb_i_of x3, zb_i_of x4]
    refine zb_Wbind2 (zb_prepare hW hu.2.1 q4.1 q4.2) (fun v hv => ?_)
    have J2 := zb_J_M hu hv.1 (by decide) (by decide)
    have k2 : zb_keep u v := zb_keep_fr hv.1 rfl
    rw [zb_chargeOf hW J2.2.1 hv.2 (show x1.toInt.toNat < Q by omega) (show x2.toInt.toNat < 20 by omega) q3.1 q3.2 q4.1 q4.2]
    refine zb_Wbind (zb_Wsome ?_)
    have z : ((0 : Int32) ≤ zb_i (zb_fee N A B M O K LO LD LE (R x1.toInt.toNat) (R x1.toInt.toNat 5) x2.toInt.toNat x3.toInt x4.toInt)) = (0 ≤ zb_fee N A B M O K LO LD LE (R x1.toInt.toNat) (R x1.toInt.toNat 5) x2.toInt.toNat x3.toInt x4.toInt) := by rw [show (0 : Int32) = zb_i 0 from zb_n_i 0]; exact zb_i_le (by omega) (by omega) (by omega) (by omega)
    simp only [z]
    refine zb_Wif (fun w => zb_Wsome ⟨by rw [if_pos w], J2, k2⟩) (fun w => zb_Wsome ⟨by rw [if_neg w], J2, k2⟩)
/-- what is due of a truck -/
def zb_du (N : Nat) (A B : Nat → Nat) (M : Nat → Int) (O : Nat → Nat) (K : Nat) (LO LD : Nat → Int) (LE : Nat → List zb_EF) (R TK : Nat → Nat → Int) (t : Nat) : Int := zb_fee N A B M O K LO LD LE (R (TK t 0).toNat) (R (TK t 0).toNat 5) (TK t 1).toNat (TK t 2) (TK t 4)
theorem zb_du_rg (hW : zb_MW N A B M O K LO LD LE td Q R T TK W WK Z ZK) (h : zb_MM N A B M O K LO LD LE td Q R T TK W WK Z ZK s) {t : Nat} (ht : t < T) : -1 ≤ zb_du N A B M O K LO LD LE R TK t ∧ zb_du N A B M O K LO LD LE R TK t ≤ 4000000 := by
  obtain ⟨a1, a2, a3, a4, a5⟩ := hW.2.2.2.2.1 t ht
  have rk := hW.2.2.1 (TK t 0).toNat (by omega)
  have p := rk.2.2.2.2.2.1
  exact zb_fee_rg2 (zb_RM_RL h.1) rk p.1 p.2.1 p.2.2 a3.1 a3.2 (zb_vJ h.2.1 _)
theorem zb_dueOf_X (h : zb_J1 N A B M O K LO LD LE td Q R T TK W WK Z ZK s) {t : Nat} (ht : t < T) : zb_W (F_Tr_dueOf (zb_n t) s) (fun r => r.1 = zb_i (zb_du N A B M O K LO LD LE R TK t) ∧ zb_J1 N A B M O K LO LD LE td Q R T TK W WK Z ZK r.2 ∧ zb_fx [81003] s r.2) := by
  have hW := h.1
  have hQ := hW.2.1
  have hT := hW.2.2.2.1
  obtain ⟨a1, a2, a3, a4, a5⟩ := hW.2.2.2.2.1 t ht
  have td9 := hW.1
  have row := h.2.2.1.2.2.2.2.2.1.2 t ht
  have e0 := row 0 (by omega)
  have e1 := row 1 (by omega)
  have e2 := row 2 (by omega)
  have e4 := row 4 (by omega)
  have rk := hW.2.2.1 (TK t 0).toNat (by omega)
  have p := rk.2.2.2.2.2.1
  unfold F_Tr_dueOf F_Tr_rateOfTruck
  have it : sv_ib (zb_n t) 80 = true := by rw [zb_ib_n (by omega)]; omega
  rw [if_pos it, zb_n_ix (by omega)]
  have e0' : s.1 152 t = zb_n (TK t 0).toNat := by rw [← zb_in_n a1.1]; exact e0
  rw [e0', zb_row (by omega)]
  refine zb_Wbind (zb_Wbind (zb_Wsome (zb_Wpos (zb_ok91 (by omega)) (zb_Wsome (zb_Wpos (zb_ok91 (by omega)) (zb_Wpos it (zb_Wpos it (zb_Wpos it ?_))))))))
  rw [zb_fld h.2.2.1 (show (TK t 0).toNat < Q by omega) (f := 5) (by omega) (by omega), show s.1 153 t = zb_n (TK t 1).toNat by rw [← zb_in_n a2.1]; exact e1, show s.1 154 t = zb_i (TK t 2) from e2, show s.1 156 t = zb_i (TK t 4) from e4]
  refine zb_Wbind2 (zb_fee_X hW (zb_RM_RL h.2.1.1) h.2.1.2.1 h.2.2.1 (show (TK t 0).toNat < Q by omega) p.1 p.2.1 (show (TK t 1).toNat < 20 by omega) a3.1 a3.2 a5.1 (by omega)) (fun v hv => zb_Wsome ⟨hv.1, zb_J_X h hv.2.1 hv.2.2 (by decide), hv.2.2⟩)
theorem zb_dueOf_M (h : zb_J1 N A B M O K LO LD LE td Q R T TK W WK Z ZK s) {t : Nat} (ht : t < T) : zb_W (F_Mo_dueOf (zb_n t) s) (fun r => r.1 = zb_i (zb_du N A B M O K LO LD LE R TK t) ∧ zb_J1 N A B M O K LO LD LE td Q R T TK W WK Z ZK r.2 ∧ zb_fr zb_ZP s r.2) := by
  have hW := h.1
  have hQ := hW.2.1
  have hT := hW.2.2.2.1
  obtain ⟨a1, a2, a3, a4, a5⟩ := hW.2.2.2.2.1 t ht
  have td9 := hW.1
  have it : sv_ib (zb_n t) 80 = true := by rw [zb_ib_n (by omega)]; omega
  unfold F_Mo_dueOf
  refine zb_Wpos it ?_
  rw [zb_n_ix (by omega), show s.1 226 t = zb_i (TK t 4) from h.2.1.2.2.2.2.1.2 t ht 4 (by omega)]
  refine zb_Wbind2 (zb_prepare hW h.2.1 a5.1 (by omega)) (fun v hv => ?_)
  have J2 := zb_J_M h hv.1 (by decide) (by decide)
  have row := J2.2.1.2.2.2.2.1.2 t ht
  refine zb_Wpos it (zb_Wpos it (zb_Wpos it (zb_Wpos it ?_)))
  rw [show v.1 222 t = zb_n (TK t 0).toNat by rw [← zb_in_n a1.1]; exact row 0 (by omega), show v.1 223 t = zb_n (TK t 1).toNat by rw [← zb_in_n a2.1]; exact row 1 (by omega), show v.1 224 t = zb_i (TK t 2) from row 2 (by omega), show v.1 226 t = zb_i (TK t 4) from row 4 (by omega), zb_chargeOf hW J2.2.1 hv.2 (show (TK t 0).toNat < Q by omega) (show (TK t 1).toNat < 20 by omega) a3.1 a3.2 a5.1 (by omega)]
  exact zb_Wbind (zb_Wsome (zb_Wsome ⟨rfl, J2, hv.1⟩))
theorem zb_c_due (h : zb_J s) : zb_m11 (F_X_due x1 s) (F_Mo_due x1) s := by
  obtain ⟨N, A, B, M, O, K, LO, LD, LE, td, Q, R, T, TK, W, WK, Z, ZK, h⟩ := h
  have hW := h.1
  have hT := hW.2.2.2.1
  refine zb_m11_of (v := if ¬ (0 ≤ x1.toInt ∧ x1.toInt < T) then (-1 : Int32) else if 0 ≤ zb_du N A B M O K LO LD LE R TK x1.toInt.toNat then zb_i (zb_du N A B M O K LO LD LE R TK x1.toInt.toNat) else (-3 : Int32)) (N := N) (A := A) (B := B) (M := M) (O := O) (K := K) (LO := LO) (LD := LD) (LE := LE) (td := td) (Q := Q) (R := R) (T := T) (TK := TK) (W := W) (WK := WK) (Z := Z) (ZK := ZK) ?_ (fun u hu => ?_)
  · have kr := zb_keep_refl s
    simp only [F_X_due, zb_g_truck h.2.2.1 hT, zb_g_owner, zb_g_station, zb_g_good, zb_g_tape, zb_g_day, zb_g_tons, zb_g_stations, zb_g_no1, zb_h_owner, zb_h_station, zb_h_good, zb_h_day, zb_h_tons, zb_h_tape, zb_h_inL, Option.bind_some, zb_bz, Int32.reduceToInt, zb_m1t, zb_m3t]
    by_cases q1 : 0 ≤ x1.toInt ∧ x1.toInt < T
    rotate_left
    · simp only [q1, and_false, false_and, and_true, true_and, and_self, not_true, not_false_iff, if_false, if_true]; exact (zb_Wsome ⟨rfl, h, kr⟩)
    simp only [q1, and_false, false_and, and_true, true_and, and_self, not_true, not_false_iff, if_false, if_true]
    have ht : x1.toInt.toNat < T := by omega
    have dr := zb_du_rg hW h.2.1 ht
    conv => lhs; rw [zb_an q1.1]
    refine zb_Wbind2 (zb_dueOf_X h ht) (fun v hv => ?_)
    have k2 : zb_keep s v.2 := zb_keep_fx hv.2.2 rfl
    rw [hv.1]
    have z : ((0 : Int32) ≤ zb_i (zb_du N A B M O K LO LD LE R TK x1.toInt.toNat)) = (0 ≤ zb_du N A B M O K LO LD LE R TK x1.toInt.toNat) := by rw [show (0 : Int32) = zb_i 0 from zb_n_i 0]; exact zb_i_le (by omega) (by omega) (by omega) (by omega)
    simp only [z]
    refine zb_Wif (fun w => zb_Wsome ⟨by rw [if_pos w], hv.2.1, k2⟩) (fun w => zb_Wsome ⟨by rw [if_neg w], hv.2.1, k2⟩)
  · have kr := zb_keep_refl u
    simp only [F_Mo_due, zb_h_truck hu.2.1 hT, zb_g_owner, zb_g_station, zb_g_good, zb_g_tape, zb_g_day, zb_g_tons, zb_g_stations, zb_g_no1, zb_h_owner, zb_h_station, zb_h_good, zb_h_day, zb_h_tons, zb_h_tape, zb_h_inL, Option.bind_some, zb_bz, Int32.reduceToInt, zb_m1t, zb_m3t]
    by_cases q1 : 0 ≤ x1.toInt ∧ x1.toInt < T
    rotate_left
    · simp only [q1, and_false, false_and, and_true, true_and, and_self, not_true, not_false_iff, if_false, if_true]; exact (zb_Wsome ⟨rfl, hu, kr⟩)
    simp only [q1, and_false, false_and, and_true, true_and, and_self, not_true, not_false_iff, if_false, if_true]
    have ht : x1.toInt.toNat < T := by omega
    have dr := zb_du_rg hW hu.2.1 ht
    conv => lhs; rw [zb_an q1.1]
    refine zb_Wbind2 (zb_dueOf_M hu ht) (fun v hv => ?_)
    have k2 : zb_keep u v.2 := zb_keep_fr hv.2.2 rfl
    rw [hv.1]
    have z : ((0 : Int32) ≤ zb_i (zb_du N A B M O K LO LD LE R TK x1.toInt.toNat)) = (0 ≤ zb_du N A B M O K LO LD LE R TK x1.toInt.toNat) := by rw [show (0 : Int32) = zb_i 0 from zb_n_i 0]; exact zb_i_le (by omega) (by omega) (by omega) (by omega)
    simp only [z]
    refine zb_Wif (fun w => zb_Wsome ⟨by rw [if_pos w], hv.2.1, k2⟩) (fun w => zb_Wsome ⟨by rw [if_neg w], hv.2.1, k2⟩)
end ASK2
