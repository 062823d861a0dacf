/-! calls that ask: charge, most, of, due -/
theorem sb_hasL {x v : Int32} {Q : Nat} (e : v = sb_n Q) (hQ : Q ≤ 1000) : (if x < (0 : Int32) then some (0 : Int32) else if v ≤ x then some (0 : Int32) else some (1 : Int32)) = some (sb_b (decide (0 ≤ x.toInt ∧ x.toInt < Q))) := by
  rw [e, show (0 : Int32) = sb_n 0 from rfl, show (1 : Int32) = sb_n 1 from rfl]
  by_cases q : x.toInt < 0
  · rw [if_pos (by rw [sb_c_ltn (by omega)]; omega), decide_eq_false (by omega)]; rfl
  · rw [if_neg (by rw [sb_c_ltn (by omega)]; omega)]
    by_cases q2 : (Q : Int) ≤ x.toInt
    · rw [if_pos (by rw [sb_n_lec (by omega)]; omega), decide_eq_false (by omega)]; rfl
    · rw [if_neg (by rw [sb_n_lec (by omega)]; omega), decide_eq_true (by omega)]; rfl
theorem sb_isnL {x v : Int32} {Q : Nat} {s : sv_S} (e : v = sb_n Q) (hQ : Q ≤ 1000) : F_Mo_in x (0 : Int32) (v - (1 : Int32)) s = some (sb_b (decide (0 ≤ x.toInt ∧ x.toInt < Q))) := by
  rw [e, sb_h_in (a := 0) (b := (Q : Int) - 1) rfl (by rw [show (1 : Int32) = sb_i 1 from sb_n_i 1, sb_n_i, sb_i_sub, sb_ti (by omega) (by omega)])]
  congr 2
  exact decide_eq_decide.mpr (by omega)
section ASK2
variable {N K td Q T W Z : Nat} {A B O ZK : Nat → Nat} {M LO LD : Nat → Int} {LE : Nat → List sb_EF} {R TK WK : Nat → Nat → Int} {s : sv_S}
variable {x1 x2 x3 x4 x5 x6 x7 : Int32}
theorem sb_g_rate (h : sb_MX N A B M O K LO LD LE td Q R T TK W WK Z ZK s) (hQ : Q ≤ 60) : F_Rs_has x1 s = some (sb_b (decide (0 ≤ x1.toInt ∧ x1.toInt < Q))) := sb_hasL h.2.2.2.2.1.1 (by omega)
theorem sb_g_truck (h : sb_MX N A B M O K LO LD LE td Q R T TK W WK Z ZK s) (hT : T ≤ 80) : F_Tr_has x1 s = some (sb_b (decide (0 ≤ x1.toInt ∧ x1.toInt < T))) := sb_hasL h.2.2.2.2.2.1.1 (by omega)
theorem sb_g_want (h : sb_MX N A B M O K LO LD LE td Q R T TK W WK Z ZK s) (hT : W ≤ 20) : F_Wa_has x1 s = some (sb_b (decide (0 ≤ x1.toInt ∧ x1.toInt < W))) := sb_hasL h.2.2.2.2.2.2.1.1 (by omega)
theorem sb_h_rate (h : sb_MM N A B M O K LO LD LE td Q R T TK W WK Z ZK s) (hQ : Q ≤ 60) : F_Mo_isRate x1 s = some (sb_b (decide (0 ≤ x1.toInt ∧ x1.toInt < Q))) := sb_h_bl (sb_isnL h.2.2.2.1.1 (by omega))
theorem sb_h_truck (h : sb_MM N A B M O K LO LD LE td Q R T TK W WK Z ZK s) (hT : T ≤ 80) : F_Mo_isTruck x1 s = some (sb_b (decide (0 ≤ x1.toInt ∧ x1.toInt < T))) := sb_h_bl (sb_isnL h.2.2.2.2.1.1 (by omega))
/-- what one side leaves when it is only asked -/
def sb_ans (N : Nat) (A B : Nat → Nat) (M : Nat → Int) (O : Nat → Nat) (K : Nat) (LO LD : Nat → Int) (LE : Nat → List sb_EF) (td Q : Nat) (R : Nat → Nat → Int) (T : Nat) (TK : Nat → Nat → Int) (W : Nat) (WK : Nat → Nat → Int) (Z : Nat) (ZK : Nat → Nat) (s : sv_S) (v : Int32) (r : Int32 × sv_S) : Prop := r.1 = v ∧ sb_J1 N A B M O K LO LD LE td Q R T TK W WK Z ZK r.2 ∧ sb_keep s r.2
theorem sb_m11_of {v : Int32} {x : Option (Int32 × sv_S)} {m : sv_S → Option (Int32 × sv_S)} (hx : sb_W x (sb_ans N A B M O K LO LD LE td Q R T TK W WK Z ZK s v)) (hm : ∀ u, sb_J1 N A B M O K LO LD LE td Q R T TK W WK Z ZK u → sb_W (m u) (sb_ans N A B M O K LO LD LE td Q R T TK W WK Z ZK u v)) : sb_m11 x m s := by
  refine sb_Wmono hx (fun r hr => ⟨hr.2.2, sb_Wmono (hm r.2 hr.2.1) (fun q hq => ⟨by rw [hq.1, hr.1], sb_J_of hq.2.1, sb_keep_trans hr.2.2 hq.2.2⟩)⟩)
theorem sb_an3 {x : Int32} {b : Nat} (h : 0 ≤ x.toInt ∧ x.toInt < b) : ∃ a : Nat, a < b ∧ x = sb_n a := ⟨x.toInt.toNat, by omega, sb_an h.1⟩
theorem sb_vJ (h : sb_LM K LO LD LE s) (d : Int) : ∀ o w, 0 ≤ sb_v K LO LD LE o d w ∧ sb_v K LO LD LE o d w ≤ 9999 := fun o w => ⟨(sb_v_rg h o d w).1, (sb_v_rg h o d w).2.1⟩
theorem sb_c_charge (h : sb_J s) : sb_m11 (F_X_charge x1 x2 x3 x4 s) (F_Mo_charge x1 x2 x3 x4) s := by
  obtain ⟨N, A, B, M, O, K, LO, LD, LE, td, Q, R, T, TK, W, WK, Z, ZK, h⟩ := h
  have hW := h.1
  have hQ := hW.2.1
  refine sb_m11_of (v := if ¬ (0 ≤ x1.toInt ∧ x1.toInt < Q) then (-1 : Int32) else if ¬ (0 ≤ x2.toInt ∧ x2.toInt ≤ 19) then (-1 : Int32) else if ¬ (1 ≤ x3.toInt ∧ x3.toInt ≤ 99) then (-2 : Int32) else if ¬ (0 ≤ x4.toInt ∧ x4.toInt ≤ 9999) then (-2 : Int32) else if 0 ≤ sb_fee N A B M O K LO LD LE (R x1.toInt.toNat) (R x1.toInt.toNat 5) x2.toInt.toNat x3.toInt x4.toInt then sb_i (sb_fee N A B M O K LO LD LE (R x1.toInt.toNat) (R x1.toInt.toNat 5) x2.toInt.toNat x3.toInt x4.toInt) else (-3 : Int32)) (N := N) (A := A) (B := B) (M := M) (O := O) (K := K) (LO := LO) (LD := LD) (LE := LE) (td := td) (Q := Q) (R := R) (T := T) (TK := TK) (W := W) (WK := WK) (Z := Z) (ZK := ZK) ?_ (fun u hu => ?_)
  · have kr := sb_keep_refl s
    simp only [F_X_charge, sb_g_rate h.2.2.1 hQ, sb_g_owner, sb_g_station, sb_g_good, sb_g_tape, sb_g_day, sb_g_tons, sb_g_stations, sb_g_no1, sb_h_owner, sb_h_station, sb_h_good, sb_h_day, sb_h_tons, sb_h_tape, sb_h_inL, Option.bind_some, sb_bz, Int32.reduceToInt, sb_m1t, sb_m3t]
    by_cases q1 : 0 ≤ x1.toInt ∧ x1.toInt < Q
    rotate_left
    · simp only [q1, and_false, false_and, and_true, true_and, and_self, not_true, not_false_iff, if_false, if_true]; exact (sb_Wsome ⟨rfl, h, kr⟩)
    by_cases q2 : 0 ≤ x2.toInt ∧ x2.toInt ≤ 19
    rotate_left
    · simp only [q1, q2, and_false, false_and, and_true, true_and, and_self, not_true, not_false_iff, if_false, if_true]; exact (sb_Wsome ⟨rfl, h, kr⟩)
    by_cases q3 : 1 ≤ x3.toInt ∧ x3.toInt ≤ 99
    rotate_left
    · simp only [q1, q2, q3, and_false, false_and, and_true, true_and, and_self, not_true, not_false_iff, if_false, if_true]; exact (sb_Wsome ⟨rfl, h, kr⟩)
    by_cases q4 : 0 ≤ x4.toInt ∧ x4.toInt ≤ 9999
    rotate_left
    · simp only [q1, q2, q3, q4, and_false, false_and, and_true, true_and, and_self, not_true, not_false_iff, if_false, if_true]; exact (sb_Wsome ⟨rfl, h, kr⟩)
    simp only [q1, q2, q3, q4, and_false, false_and, and_true, true_and, and_self, not_true, not_false_iff, if_false, if_true]
    have rk := hW.2.2.1 x1.toInt.toNat (by omega)
    have p := rk.2.2.2.2.2.1
    have fr := sb_fee_rg2 (sb_RM_RL h.2.1.1) rk (g := x2.toInt.toNat) p.1 p.2.1 p.2.2 q3.1 q3.2 (sb_vJ h.2.1.2.1 x4.toInt)
    conv => lhs; rw [sb_an q1.1, sb_an q2.1, sb_i_of x3, sb_i_of x4]
    rw [sb_row (by omega)]
    refine sb_Wbind (sb_Wsome (sb_Wpos (sb_ok91 (by omega)) ?_))
    rw [sb_fld h.2.2.1 (show x1.toInt.toNat < Q by omega) (f := 5) (by omega) (by omega)]
    refine sb_Wbind2 (sb_fee_X hW (sb_RM_RL h.2.1.1) h.2.1.2.1 h.2.2.1 (show x1.toInt.toNat < Q by omega) p.1 p.2.1 (show x2.toInt.toNat < 20 by omega) q3.1 q3.2 q4.1 q4.2) (fun v hv => ?_)
    obtain ⟨v1, v2, v3⟩ := hv
    have J2 := sb_J_X h v2 v3 (by decide)
    have k2 : sb_keep s v.2 := sb_keep_fx v3 rfl
    rw [v1]
    have z : ((0 : Int32) ≤ sb_i (sb_fee N A B M O K LO LD LE (R x1.toInt.toNat) (R x1.toInt.toNat 5) x2.toInt.toNat x3.toInt x4.toInt)) = (0 ≤ sb_fee N A B M O K LO LD LE (R x1.toInt.toNat) (R x1.toInt.toNat 5) x2.toInt.toNat x3.toInt x4.toInt) := by rw [show (0 : Int32) = sb_i 0 from sb_n_i 0]; exact sb_i_le (by omega) (by omega) (by omega) (by omega)
    simp only [z]
    refine sb_Wif (fun w => sb_Wsome ⟨by rw [if_pos w], J2, k2⟩) (fun w => sb_Wsome ⟨by rw [if_neg w], J2, k2⟩)
  · have kr := sb_keep_refl u
    simp only [F_Mo_charge, sb_h_rate hu.2.1 hQ, sb_g_owner, sb_g_station, sb_g_good, sb_g_tape, sb_g_day, sb_g_tons, sb_g_stations, sb_g_no1, sb_h_owner, sb_h_station, sb_h_good, sb_h_day, sb_h_tons, sb_h_tape, sb_h_inL, Option.bind_some, sb_bz, Int32.reduceToInt, sb_m1t, sb_m3t]
    by_cases q1 : 0 ≤ x1.toInt ∧ x1.toInt < Q
    rotate_left
    · simp only [q1, and_false, false_and, and_true, true_and, and_self, not_true, not_false_iff, if_false, if_true]; exact (sb_Wsome ⟨rfl, hu, kr⟩)
    by_cases q2 : 0 ≤ x2.toInt ∧ x2.toInt ≤ 19
    rotate_left
    · simp only [q1, q2, and_false, false_and, and_true, true_and, and_self, not_true, not_false_iff, if_false, if_true]; exact (sb_Wsome ⟨rfl, hu, kr⟩)
    by_cases q3 : 1 ≤ x3.toInt ∧ x3.toInt ≤ 99
    rotate_left
    · simp only [q1, q2, q3, and_false, false_and, and_true, true_and, and_self, not_true, not_false_iff, if_false, if_true]; exact (sb_Wsome ⟨rfl, hu, kr⟩)
    by_cases q4 : 0 ≤ x4.toInt ∧ x4.toInt ≤ 9999
    rotate_left
    · simp only [q1, q2, q3, q4, and_false, false_and, and_true, true_and, and_self, not_true, not_false_iff, if_false, if_true]; exact (sb_Wsome ⟨rfl, hu, kr⟩)
    simp only [q1, q2, q3, q4, and_false, false_and, and_true, true_and, and_self, not_true, not_false_iff, if_false, if_true]
    have rk := hW.2.2.1 x1.toInt.toNat (by omega)
    have p := rk.2.2.2.2.2.1
    have fr := sb_fee_rg2 (sb_RM_RL hu.2.1.1) rk (g := x2.toInt.toNat) p.1 p.2.1 p.2.2 q3.1 q3.2 (sb_vJ hu.2.1.2.1 x4.toInt)
    conv => lhs; rw [sb_an q1.1, sb_an q2.1, sb_i_of x3, sb_i_of x4]
    refine sb_Wbind2 (sb_prepare hW hu.2.1 q4.1 q4.2) (fun v hv => ?_)
    have J2 := sb_J_M hu hv.1 (by decide) (by decide)
    have k2 : sb_keep u v := sb_keep_fr hv.1 rfl
    rw [sb_chargeOf hW J2.2.1 hv.2 (show x1.toInt.toNat < Q by omega) (show x2.toInt.toNat < 20 by omega) q3.1 q3.2 q4.1 q4.2]
    refine sb_Wbind (sb_Wsome ?_)
    have z : ((0 : Int32) ≤ sb_i (sb_fee N A B M O K LO LD LE (R x1.toInt.toNat) (R x1.toInt.toNat 5) x2.toInt.toNat x3.toInt x4.toInt)) = (0 ≤ sb_fee N A B M O K LO LD LE (R x1.toInt.toNat) (R x1.toInt.toNat 5) x2.toInt.toNat x3.toInt x4.toInt) := by rw [show (0 : Int32) = sb_i 0 from sb_n_i 0]; exact sb_i_le (by omega) (by omega) (by omega) (by omega)
    simp only [z]
    refine sb_Wif (fun w => sb_Wsome ⟨by rw [if_pos w], J2, k2⟩) (fun w => sb_Wsome ⟨by rw [if_neg w], J2, k2⟩)
/-- what is due of a truck -/
def sb_du (N : Nat) (A B : Nat → Nat) (M : Nat → Int) (O : Nat → Nat) (K : Nat) (LO LD : Nat → Int) (LE : Nat → List sb_EF) (R TK : Nat → Nat → Int) (t : Nat) : Int := sb_fee N A B M O K LO LD LE (R (TK t 0).toNat) (R (TK t 0).toNat 5) (TK t 1).toNat (TK t 2) (TK t 4)
theorem sb_du_rg (hW : sb_MW N A B M O K LO LD LE td Q R T TK W WK Z ZK) (h : sb_MM N A B M O K LO LD LE td Q R T TK W WK Z ZK s) {t : Nat} (ht : t < T) : -1 ≤ sb_du N A B M O K LO LD LE R TK t ∧ sb_du N A B M O K LO LD LE R TK t ≤ 4000000 := by
  obtain ⟨a1, a2, a3, a4, a5⟩ := hW.2.2.2.2.1 t ht
  have rk := hW.2.2.1 (TK t 0).toNat (by omega)
  have p := rk.2.2.2.2.2.1
  exact sb_fee_rg2 (sb_RM_RL h.1) rk p.1 p.2.1 p.2.2 a3.1 a3.2 (sb_vJ h.2.1 _)
theorem sb_dueOf_X (h : sb_J1 N A B M O K LO LD LE td Q R T TK W WK Z ZK s) {t : Nat} (ht : t < T) : sb_W (F_Tr_dueOf (sb_n t) s) (fun r => r.1 = sb_i (sb_du N A B M O K LO LD LE R TK t) ∧ sb_J1 N A B M O K LO LD LE td Q R T TK W WK Z ZK r.2 ∧ sb_fx [81003] s r.2) := by
  have hW := h.1
  have hQ := hW.2.1
  have hT := hW.2.2.2.1
  obtain ⟨a1, a2, a3, a4, a5⟩ := hW.2.2.2.2.1 t ht
  have td9 := hW.1
  have row := h.2.2.1.2.2.2.2.2.1.2 t ht
  have e0 := row 0 (by omega)
  have e1 := row 1 (by omega)
  have e2 := row 2 (by omega)
  have e4 := row 4 (by omega)
  have rk := hW.2.2.1 (TK t 0).toNat (by omega)
  have p := rk.2.2.2.2.2.1
  unfold F_Tr_dueOf F_Tr_rateOfTruck
  have it : sv_ib (sb_n t) 80 = true := by rw [sb_ib_n (by omega)]; omega
  rw [if_pos it, sb_n_ix (by omega)]
  have e0' : s.1 152 t = sb_n (TK t 0).toNat := by rw [← sb_in_n a1.1]; exact e0
  rw [e0', sb_row (by omega)]
  refine sb_Wbind (sb_Wbind (sb_Wsome (sb_Wpos (sb_ok91 (by omega)) (sb_Wsome (sb_Wpos (sb_ok91 (by omega)) (sb_Wpos it (sb_Wpos it (sb_Wpos it ?_))))))))
  rw [sb_fld h.2.2.1 (show (TK t 0).toNat < Q by omega) (f := 5) (by omega) (by omega), show s.1 153 t = sb_n (TK t 1).toNat by rw [← sb_in_n a2.1]; exact e1, show s.1 154 t = sb_i (TK t 2) from e2, show s.1 156 t = sb_i (TK t 4) from e4]
  refine sb_Wbind2 (sb_fee_X hW (sb_RM_RL h.2.1.1) h.2.1.2.1 h.2.2.1 (show (TK t 0).toNat < Q by omega) p.1 p.2.1 (show (TK t 1).toNat < 20 by omega) a3.1 a3.2 a5.1 (by omega)) (fun v hv => sb_Wsome ⟨hv.1, sb_J_X h hv.2.1 hv.2.2 (by decide), hv.2.2⟩)
theorem sb_dueOf_M (h : sb_J1 N A B M O K LO LD LE td Q R T TK W WK Z ZK s) {t : Nat} (ht : t < T) : sb_W (F_Mo_dueOf (sb_n t) s) (fun r => r.1 = sb_i (sb_du N A B M O K LO LD LE R TK t) ∧ sb_J1 N A B M O K LO LD LE td Q R T TK W WK Z ZK r.2 ∧ sb_fr sb_ZP s r.2) := by
  have hW := h.1
  have hQ := hW.2.1
  have hT := hW.2.2.2.1
  obtain ⟨a1, a2, a3, a4, a5⟩ := hW.2.2.2.2.1 t ht
  have td9 := hW.1
  have it : sv_ib (sb_n t) 80 = true := by rw [sb_ib_n (by omega)]; omega
  unfold F_Mo_dueOf
  refine sb_Wpos it ?_
  rw [sb_n_ix (by omega), show s.1 226 t = sb_i (TK t 4) from h.2.1.2.2.2.2.1.2 t ht 4 (by omega)]
  refine sb_Wbind2 (sb_prepare hW h.2.1 a5.1 (by omega)) (fun v hv => ?_)
  have J2 := sb_J_M h hv.1 (by decide) (by decide)
  have row := J2.2.1.2.2.2.2.1.2 t ht
  refine sb_Wpos it (sb_Wpos it (sb_Wpos it (sb_Wpos it ?_)))
  rw [show v.1 222 t = sb_n (TK t 0).toNat by rw [← sb_in_n a1.1]; exact row 0 (by omega), show v.1 223 t = sb_n (TK t 1).toNat by rw [← sb_in_n a2.1]; exact row 1 (by omega), show v.1 224 t = sb_i (TK t 2) from row 2 (by omega), show v.1 226 t = sb_i (TK t 4) from row 4 (by omega), sb_chargeOf hW J2.2.1 hv.2 (show (TK t 0).toNat < Q by omega) (show (TK t 1).toNat < 20 by omega) a3.1 a3.2 a5.1 (by omega)]
  exact sb_Wbind (sb_Wsome (sb_Wsome ⟨rfl, J2, hv.1⟩))
theorem sb_c_due (h : sb_J s) : sb_m11 (F_X_due x1 s) (F_Mo_due x1) s := by
  obtain ⟨N, A, B, M, O, K, LO, LD, LE, td, Q, R, T, TK, W, WK, Z, ZK, h⟩ := h
  have hW := h.1
  have hT := hW.2.2.2.1
  refine sb_m11_of (v := if ¬ (0 ≤ x1.toInt ∧ x1.toInt < T) then (-1 : Int32) else if 0 ≤ sb_du N A B M O K LO LD LE R TK x1.toInt.toNat then sb_i (sb_du N A B M O K LO LD LE R TK x1.toInt.toNat) else (-3 : Int32)) (N := N) (A := A) (B := B) (M := M) (O := O) (K := K) (LO := LO) (LD := LD) (LE := LE) (td := td) (Q := Q) (R := R) (T := T) (TK := TK) (W := W) (WK := WK) (Z := Z) (ZK := ZK) ?_ (fun u hu => ?_)
  · have kr := sb_keep_refl s
    simp only [F_X_due, sb_g_truck h.2.2.1 hT, sb_g_owner, sb_g_station, sb_g_good, sb_g_tape, sb_g_day, sb_g_tons, sb_g_stations, sb_g_no1, sb_h_owner, sb_h_station, sb_h_good, sb_h_day, sb_h_tons, sb_h_tape, sb_h_inL, Option.bind_some, sb_bz, Int32.reduceToInt, sb_m1t, sb_m3t]
    by_cases q1 : 0 ≤ x1.toInt ∧ x1.toInt < T
    rotate_left
    · simp only [q1, and_false, false_and, and_true, true_and, and_self, not_true, not_false_iff, if_false, if_true]; exact (sb_Wsome ⟨rfl, h, kr⟩)
    simp only [q1, and_false, false_and, and_true, true_and, and_self, not_true, not_false_iff, if_false, if_true]
    have ht : x1.toInt.toNat < T := by omega
    have dr := sb_du_rg hW h.2.1 ht
    conv => lhs; rw [sb_an q1.1]
    refine sb_Wbind2 (sb_dueOf_X h ht) (fun v hv => ?_)
    have k2 : sb_keep s v.2 := sb_keep_fx hv.2.2 rfl
    rw [hv.1]
    have z : ((0 : Int32) ≤ sb_i (sb_du N A B M O K LO LD LE R TK x1.toInt.toNat)) = (0 ≤ sb_du N A B M O K LO LD LE R TK x1.toInt.toNat) := by rw [show (0 : Int32) = sb_i 0 from sb_n_i 0]; exact sb_i_le (by omega) (by omega) (by omega) (by omega)
    simp only [z]
    refine sb_Wif (fun w => sb_Wsome ⟨by rw [if_pos w], hv.2.1, k2⟩) (fun w => sb_Wsome ⟨by rw [if_neg w], hv.2.1, k2⟩)
  · have kr := sb_keep_refl u
    simp only [F_Mo_due, sb_h_truck hu.2.1 hT, sb_g_owner, sb_g_station, sb_g_good, sb_g_tape, sb_g_day, sb_g_tons, sb_g_stations, sb_g_no1, sb_h_owner, sb_h_station, sb_h_good, sb_h_day, sb_h_tons, sb_h_tape, sb_h_inL, Option.bind_some, sb_bz, Int32.reduceToInt, sb_m1t, sb_m3t]
    by_cases q1 : 0 ≤ x1.toInt ∧ x1.toInt < T
    rotate_left
    · simp only [q1, and_false, false_and, and_true, true_and, and_self, not_true, not_false_iff, if_false, if_true]; exact (sb_Wsome ⟨rfl, hu, kr⟩)
    simp only [q1, and_false, false_and, and_true, true_and, and_self, not_true, not_false_iff, if_false, if_true]
    have ht : x1.toInt.toNat < T := by omega
    have dr := sb_du_rg hW hu.2.1 ht
    conv => lhs; rw [sb_an q1.1]
    refine sb_Wbind2 (sb_dueOf_M hu ht) (fun v hv => ?_)
    have k2 : sb_keep u v.2 := sb_keep_fr hv.2.2 rfl
    rw [hv.1]
    have z : ((0 : Int32) ≤ sb_i (sb_du N A B M O K LO LD LE R TK x1.toInt.toNat)) = (0 ≤ sb_du N A B M O K LO LD LE R TK x1.toInt.toNat) := by rw [show (0 : Int32) = sb_i 0 from sb_n_i 0]; exact sb_i_le (by omega) (by omega) (by omega) (by omega)
    simp only [z]
    refine sb_Wif (fun w => sb_Wsome ⟨by rw [if_pos w], hv.2.1, k2⟩) (fun w => sb_Wsome ⟨by rw [if_neg w], hv.2.1, k2⟩)
end ASK2
