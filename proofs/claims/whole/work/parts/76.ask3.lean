/-! of, count, ended, trace, taken -/
section ASK3
variable {N K td Q T W Z : Nat} {A B O ZK : Nat → Nat} {M LO LD : Nat → Int} {LE : Nat → List sb_EF} {R TK WK : Nat → Nat → Int} {s : sv_S}
variable {x1 x2 x3 x4 x5 x6 x7 : Int32}
theorem sb_c_count (h : sb_J s) : sb_m00 (F_X_count x1 s) (F_Mo_count x1) s := by
  obtain ⟨N, A, B, M, O, K, LO, LD, LE, td, Q, R, T, TK, W, WK, Z, ZK, h⟩ := h
  obtain ⟨hW, hM, hX, hO, hB⟩ := h
  obtain ⟨⟨n, t1, t2, t3, t4⟩, ⟨m, a1, a2, a3, a4⟩, _⟩ := hO
  unfold sb_m00 F_X_count F_Mo_count
  rw [hX.2.2.2.1, hX.1.1, hX.2.1.1.2.1, hX.2.2.2.2.1.1, hX.2.2.2.2.2.1.1, hX.2.2.2.2.2.2.1.1, hX.2.2.2.2.2.2.2.1, t2, a2, hM.2.2.1, hM.1.2.1, hM.2.1.2.1, hM.2.2.2.1.1, hM.2.2.2.2.1.1, hM.2.2.2.2.2.1.1, hM.2.2.2.2.2.2.1, t3, a3]
  by_cases q0 : x1 = 0
  · rw [if_pos q0]; exact sb_Wsome (sb_Wsome rfl)
  rw [if_neg q0]
  by_cases q1 : x1 = 1
  · rw [if_pos q1]; exact sb_Wsome (sb_Wsome rfl)
  rw [if_neg q1]
  by_cases q2 : x1 = 2
  · rw [if_pos q2]; exact sb_Wsome (sb_Wsome rfl)
  rw [if_neg q2]
  by_cases q3 : x1 = 3
  · rw [if_pos q3]; exact sb_Wsome (sb_Wsome rfl)
  rw [if_neg q3]
  by_cases q4 : x1 = 4
  · rw [if_pos q4]; exact sb_Wsome (sb_Wsome rfl)
  rw [if_neg q4]
  by_cases q5 : x1 = 5
  · rw [if_pos q5]; exact sb_Wsome (sb_Wsome rfl)
  rw [if_neg q5]
  by_cases q6 : x1 = 6
  · rw [if_pos q6]; exact sb_Wsome (sb_Wsome rfl)
  rw [if_neg q6]
  by_cases q7 : x1 = 7
  · rw [if_pos q7]; exact sb_Wsome (sb_Wsome rfl)
  rw [if_neg q7]
  by_cases q8 : x1 = 8
  · rw [if_pos q8]; exact sb_Wsome (sb_Wsome rfl)
  rw [if_neg q8]; exact sb_Wsome (sb_Wsome rfl)
theorem sb_c_ended (h : sb_J s) : sb_m00 (F_X_ended s) F_Mo_ended s := by
  obtain ⟨N, A, B, M, O, K, LO, LD, LE, td, Q, R, T, TK, W, WK, Z, ZK, h⟩ := h
  obtain ⟨e, e1, e2, e3, e4⟩ := h.2.2.2.1.2.2.2.1
  unfold sb_m00 F_X_ended F_Mo_ended
  rw [e3, e4]
  refine sb_Wsome ?_
  by_cases q : e < 0
  · rw [if_pos q]
    exact sb_Wneg (by rw [show (0 : Int32) = sb_i 0 from sb_n_i 0, sb_i_le (by omega) (by omega) (by omega) (by omega)]; omega) (sb_Wsome sb_m3)
  · rw [if_neg q]
    exact sb_Wpos (sb_ge0 (by omega) (by omega)) (sb_Wsome rfl)
theorem sb_c_trace (h : sb_J s) : sb_m00 (F_X_trace x1 s) (F_Mo_trace x1) s := by
  obtain ⟨N, A, B, M, O, K, LO, LD, LE, td, Q, R, T, TK, W, WK, Z, ZK, h⟩ := h
  obtain ⟨m, a1, a2, a3, a4⟩ := h.2.2.2.1.2.1
  unfold sb_m00
  have z1 : (x1 < (0 : Int32)) = (x1.toInt < 0) := by rw [show (0 : Int32) = sb_n 0 from rfl]; exact sb_c_ltn (by omega)
  have z2 : (sb_n m ≤ x1) = ((m : Int) ≤ x1.toInt) := sb_n_lec (by omega)
  have z3 : ((20 : Int32) ≤ x1) = (20 ≤ x1.toInt) := by rw [show (20 : Int32) = sb_n 20 from rfl]; exact sb_n_lec (by omega)
  simp only [F_X_trace, F_Ac_keeps, F_Mo_trace, a2, a3, z1, z2, z3, sb_g_owner, sb_g_station, sb_g_good, sb_g_tape, sb_g_day, sb_g_tons, sb_g_stations, sb_g_no1, sb_h_owner, sb_h_station, sb_h_good, sb_h_day, sb_h_tons, sb_h_tape, sb_h_inL, Option.bind_some, sb_bz, Int32.reduceToInt, sb_m1t, sb_m3t]
  by_cases q1 : x1.toInt < 0
  · rw [if_pos q1]
    exact sb_Wbind (sb_Wsome (sb_Wpos rfl (sb_Wsome (sb_Wpos (by omega) (sb_Wsome rfl)))))
  rw [if_neg q1]
  by_cases q2 : (m : Int) ≤ x1.toInt
  · rw [if_pos q2]
    refine sb_Wbind (sb_Wsome (sb_Wpos rfl (sb_Wsome ?_)))
    exact sb_Wif (fun _ => sb_Wsome rfl) (fun _ => sb_Wpos q2 (sb_Wsome rfl))
  rw [if_neg q2]
  by_cases q3 : 20 ≤ x1.toInt
  · rw [if_pos q3]
    exact sb_Wbind (sb_Wsome (sb_Wpos rfl (sb_Wsome (sb_Wpos (by omega) (sb_Wsome rfl)))))
  rw [if_neg q3]
  refine sb_Wbind (sb_Wsome (sb_Wneg (by decide) ?_))
  obtain ⟨a, ha, rfl⟩ := sb_an2 (x := x1) (b := 19) ⟨by omega, by omega⟩
  rw [sb_tn (by omega)] at q1 q2 q3
  refine sb_Wpos (by first | omega | (simp (disch := omega) only [sb_lit, sb_n_add, sb_n_mul, sb_n_ix, sb_n_lt, sb_n_le, sb_n_eq, sb_ib_n] <;> omega)) ?_
  rw [sb_n_ix (by omega)]
  simp only [sb_tn (show a ≤ 2147483647 by omega)]
  refine sb_Wsome (sb_Wneg (by omega) (sb_Wneg (by omega) ?_))
  refine sb_Wpos (by first | omega | (simp (disch := omega) only [sb_lit, sb_n_add, sb_n_mul, sb_n_ix, sb_n_lt, sb_n_le, sb_n_eq, sb_ib_n] <;> omega)) ?_
  exact sb_Wsome (a4 a (by omega) (by omega)).symm
/-- a rate's kind now -/
def sb_kn (f : Nat → Int) : Int := if 0 ≤ f 8 then 6 else f 1
theorem sb_kind_X (h : sb_MX N A B M O K LO LD LE td Q R T TK W WK Z ZK s) {r : Nat} (hr : r < Q) : F_Ra_kind (91 + r) s = some (sb_i (sb_kn (R r))) := by
  unfold F_Ra_kind sb_kn
  rw [(h.2.2.2.2.1.2.1 r hr).2.2, sb_fld h hr (f := 1) (by omega) (by omega)]
  by_cases q : 0 ≤ R r 8
  · rw [if_pos q, decide_eq_true q, if_neg (by decide)]; rfl
  · rw [if_neg q, decide_eq_false q, if_pos (by decide)]
theorem sb_kind_M (hW : sb_MW N A B M O K LO LD LE td Q R T TK W WK Z ZK) (h : sb_MM N A B M O K LO LD LE td Q R T TK W WK Z ZK s) {r : Nat} (hr : r < Q) : F_Mo_nowKind (sb_n r) s = some (sb_i (sb_kn (R r))) := by
  have hQ := hW.2.1
  have rk := hW.2.2.1 r hr
  have ir : sv_ib (sb_n r) 60 = true := by rw [sb_ib_n (by omega)]; omega
  unfold F_Mo_nowKind sb_kn
  rw [if_pos ir, sb_n_ix (by omega), sb_fldM h.2.2.2.1 hr (f := 8) (c := 212) (by omega) (by omega) rfl, sb_fldM h.2.2.2.1 hr (f := 1) (c := 205) (by omega) (by omega) rfl]
  have h8 := rk.2.2.2.2.2.2.2.2.1
  by_cases q : 0 ≤ R r 8
  · rw [if_pos q, if_neg (sb_ge0' q (by omega))]; rfl
  · rw [if_neg q, if_pos (by rw [show (0 : Int32) = sb_i 0 from sb_n_i 0, sb_i_lt (by omega) (by omega) (by omega) (by omega)]; omega), if_pos ir]
theorem sb_kn_rg {r : Nat} {f : Nat → Int} (h : sb_rok r f) : 0 ≤ sb_kn f ∧ sb_kn f ≤ 6 := by
  unfold sb_kn; have := h.1; split <;> omega
theorem sb_c_of (h : sb_J s) : sb_m00 (F_X_of x1 x2 s) (F_Mo_of x1 x2) s := by
  obtain ⟨N, A, B, M, O, K, LO, LD, LE, td, Q, R, T, TK, W, WK, Z, ZK, h⟩ := h
  obtain ⟨hW, hM, hX, hO, hB⟩ := h
  have hQ := hW.2.1
  unfold sb_m00
  simp only [F_X_of, F_Mo_of, sb_g_rate hX hQ, sb_h_rate hM hQ, sb_g_owner, sb_g_station, sb_g_good, sb_g_tape, sb_g_day, sb_g_tons, sb_g_stations, sb_g_no1, sb_h_owner, sb_h_station, sb_h_good, sb_h_day, sb_h_tons, sb_h_tape, sb_h_inL, Option.bind_some, sb_bz, Int32.reduceToInt, sb_m1t, sb_m3t]
  by_cases q1 : 0 ≤ x1.toInt ∧ x1.toInt < Q
  rotate_left
  · simp only [q1, not_false_iff, if_true]; exact sb_Wsome (sb_Wsome rfl)
  simp only [q1, and_self, not_true, if_false]
  obtain ⟨r, hr, rfl⟩ := sb_an3 q1
  rw [sb_row (by omega)]
  refine sb_Wbind (sb_Wsome (sb_Wpos (sb_ok91 (by omega)) ?_))
  unfold F_Ra_fact
  have ir : sv_ib (sb_n r) 60 = true := by rw [sb_ib_n (by omega)]; omega
  have fM := fun f c (h1 : 1 ≤ f) (h2 : f ≤ 10) (h3 : 204 + f = c) => sb_fldM hM.2.2.2.1 hr (f := f) (c := c) h1 h2 h3
  rw [sb_kind_X hX hr, sb_kind_M hW hM hr, sb_n_ix (by omega), sb_fld hX hr (f := 1) (by omega) (by omega), sb_fld hX hr (f := 2) (by omega) (by omega), sb_fld hX hr (f := 3) (by omega) (by omega), sb_fld hX hr (f := 4) (by omega) (by omega), sb_fld hX hr (f := 5) (by omega) (by omega), sb_fld hX hr (f := 6) (by omega) (by omega), sb_fld hX hr (f := 7) (by omega) (by omega), sb_fld hX hr (f := 8) (by omega) (by omega), sb_fld hX hr (f := 9) (by omega) (by omega), sb_fld hX hr (f := 10) (by omega) (by omega), fM 1 205 (by omega) (by omega) rfl, fM 2 206 (by omega) (by omega) rfl, fM 3 207 (by omega) (by omega) rfl, fM 4 208 (by omega) (by omega) rfl, fM 5 209 (by omega) (by omega) rfl, fM 6 210 (by omega) (by omega) rfl, fM 7 211 (by omega) (by omega) rfl, fM 8 212 (by omega) (by omega) rfl, fM 9 213 (by omega) (by omega) rfl, fM 10 214 (by omega) (by omega) rfl]
  simp only [ir, if_true, Option.bind_some]
  by_cases w0 : x2 = 0
  · simp only [w0, if_true, Option.bind_some]; exact sb_Wsome (sb_Wsome rfl)
  simp only [w0, if_false]
  by_cases w1 : x2 = 1
  · simp only [w1, if_true, Option.bind_some]; exact sb_Wsome (sb_Wsome rfl)
  simp only [w1, if_false]
  by_cases w2 : x2 = 2
  · simp only [w2, if_true, Option.bind_some]; exact sb_Wsome (sb_Wsome rfl)
  simp only [w2, if_false]
  by_cases w3 : x2 = 3
  · simp only [w3, if_true, Option.bind_some]; exact sb_Wsome (sb_Wsome rfl)
  simp only [w3, if_false]
  by_cases w4 : x2 = 4
  · simp only [w4, if_true, Option.bind_some]; exact sb_Wsome (sb_Wsome rfl)
  simp only [w4, if_false]
  by_cases w5 : x2 = 5
  · simp only [w5, if_true, Option.bind_some]; exact sb_Wsome (sb_Wsome rfl)
  simp only [w5, if_false]
  by_cases w6 : x2 = 6
  · simp only [w6, if_true, Option.bind_some]; exact sb_Wsome (sb_Wsome rfl)
  simp only [w6, if_false]
  by_cases w7 : x2 = 7
  · simp only [w7, if_true, Option.bind_some]; exact sb_Wsome (sb_Wsome rfl)
  simp only [w7, if_false]
  by_cases w8 : x2 = 8
  · simp only [w8, if_true, Option.bind_some]; exact sb_Wsome (sb_Wsome rfl)
  simp only [w8, if_false]
  by_cases w9 : x2 = 9
  · simp only [w9, if_true, Option.bind_some]; exact sb_Wsome (sb_Wsome rfl)
  simp only [w9, if_false]
  by_cases w10 : x2 = 10
  · simp only [w10, if_true, Option.bind_some]; exact sb_Wsome (sb_Wsome rfl)
  simp only [w10, if_false, Option.bind_some]; exact sb_Wsome (sb_Wsome rfl)
/-- one kind under another -/
theorem sb_under (hB : sb_JB s) {k a : Nat} (hk : k < 7) (ha : a < 7) : F_Ac_isUnder (sb_n k) (sb_n a) s = some (sb_b (decide (a = 0 ∨ k = a ∨ (a = 1 ∧ k = 4)))) := by
  have st : ∀ (f j k : Nat), k < 7 → j < 7 → F_Ac_isUnder_b4 s (f + 1) (sb_n a) (sb_n k) (sb_n j) = if k = a then some (sb_n 1) else F_Ac_isUnder_b4 s f (sb_n a) (sb_i (sb_aL.getD k 0)) (sb_n (j + 1)) := by
    intro f j k hk hj
    simp only [F_Ac_isUnder_b4, ss_let]
    rw [sb_m1, if_neg (by rw [show (7 : Int32) = sb_n 7 from rfl, sb_n_le (by omega) (by omega)]; omega), if_neg (by rw [sb_n_i, sb_i_eq (by omega) (by omega) (by omega) (by omega)]; omega)]
    by_cases e : k = a
    · rw [if_pos e, if_pos (by rw [e])]; rfl
    · rw [if_neg e, if_neg (by rw [sb_n_eq (by omega) (by omega)]; exact e), if_pos (by rw [sb_ib_n (by omega)]; exact hk), sb_n_ix (by omega), hB.1 k hk, show sb_n j + (1 : Int32) = sb_n (j + 1) from sb_n_add j 1]
  have en : ∀ f j : Nat, j < 7 → F_Ac_isUnder_b4 s (f + 1) (sb_n a) (sb_i (-1)) (sb_n j) = some (sb_n 0) := by
    intro f j hj
    simp only [F_Ac_isUnder_b4]
    rw [sb_m1, if_neg (by rw [show (7 : Int32) = sb_n 7 from rfl, sb_n_le (by omega) (by omega)]; omega), if_pos rfl]; rfl
  unfold F_Ac_isUnder
  rw [show ss_F = 8188 + 1 + 1 + 1 + 1 from rfl, show (0 : Int32) = sb_n 0 from rfl, st _ 0 k hk (by omega)]
  have zero : ∀ f j : Nat, j + 1 < 7 → F_Ac_isUnder_b4 s (f + 1 + 1) (sb_n a) (sb_i 0) (sb_n j) = some (sb_b (decide (a = 0))) := by
    intro f j hj
    rw [show sb_i 0 = sb_n 0 from (sb_n_i 0).symm, st (f + 1) j 0 (by omega) (by omega)]
    by_cases e : a = 0
    · rw [if_pos e.symm, decide_eq_true e]; rfl
    · rw [if_neg (fun z => e z.symm), show sb_aL.getD 0 0 = -1 from rfl, en f (j + 1) hj, decide_eq_false e]; rfl
  have : k = 0 ∨ k = 1 ∨ k = 2 ∨ k = 3 ∨ k = 4 ∨ k = 5 ∨ k = 6 := by omega
  by_cases e : k = a
  · rw [if_pos e, decide_eq_true (Or.inr (Or.inl e))]; rfl
  rw [if_neg e]
  rcases this with rfl | rfl | rfl | rfl | rfl | rfl | rfl
  · rw [show sb_aL.getD 0 0 = -1 from rfl, en _ 1 (by omega), decide_eq_false (by omega)]; rfl
  · rw [show sb_aL.getD 1 0 = 0 from rfl, zero _ 1 (by omega)]; congr 2; exact decide_eq_decide.mpr (by omega)
  · rw [show sb_aL.getD 2 0 = 0 from rfl, zero _ 1 (by omega)]; congr 2; exact decide_eq_decide.mpr (by omega)
  · rw [show sb_aL.getD 3 0 = 0 from rfl, zero _ 1 (by omega)]; congr 2; exact decide_eq_decide.mpr (by omega)
  · rw [show sb_aL.getD 4 0 = 1 from rfl, show sb_i 1 = sb_n 1 from (sb_n_i 1).symm, st _ 1 1 (by omega) (by omega)]
    by_cases e2 : 1 = a
    · rw [if_pos e2, decide_eq_true (Or.inr (Or.inr ⟨e2.symm, rfl⟩))]; rfl
    · rw [if_neg e2, show sb_aL.getD 1 0 = 0 from rfl, zero _ 2 (by omega)]; congr 2; exact decide_eq_decide.mpr (by omega)
  · rw [show sb_aL.getD 5 0 = 0 from rfl, zero _ 1 (by omega)]; congr 2; exact decide_eq_decide.mpr (by omega)
  · rw [show sb_aL.getD 6 0 = 0 from rfl, zero _ 1 (by omega)]; congr 2; exact decide_eq_decide.mpr (by omega)
theorem sb_c_taken (h : sb_J s) : sb_m00 (F_X_taken x1 x2 s) (F_Mo_taken x1 x2) s := by
  obtain ⟨N, A, B, M, O, K, LO, LD, LE, td, Q, R, T, TK, W, WK, Z, ZK, h⟩ := h
  obtain ⟨hW, hM, hX, hO, hB⟩ := h
  have hQ := hW.2.1
  unfold sb_m00
  have z1 : (x2 < (0 : Int32)) = (x2.toInt < 0) := by rw [show (0 : Int32) = sb_n 0 from rfl]; exact sb_c_ltn (by omega)
  have z2 : (x2 < (7 : Int32)) = (x2.toInt < 7) := by rw [show (7 : Int32) = sb_n 7 from rfl]; exact sb_c_ltn (by omega)
  simp only [F_X_taken, F_Mo_taken, sb_g_rate hX hQ, sb_h_rate hM hQ, z1, z2, sb_g_owner, sb_g_station, sb_g_good, sb_g_tape, sb_g_day, sb_g_tons, sb_g_stations, sb_g_no1, sb_h_owner, sb_h_station, sb_h_good, sb_h_day, sb_h_tons, sb_h_tape, sb_h_inL, Option.bind_some, sb_bz, Int32.reduceToInt, sb_m1t, sb_m3t]
  by_cases q1 : x2.toInt < 0
  · rw [if_pos q1]; exact sb_Wsome (sb_Wpos (by omega) (sb_Wsome rfl))
  rw [if_neg q1]
  by_cases q2 : x2.toInt < 7
  rotate_left
  · rw [if_neg q2]; exact sb_Wsome (sb_Wpos (by omega) (sb_Wsome rfl))
  rw [if_pos q2]
  by_cases q3 : 0 ≤ x1.toInt ∧ x1.toInt < Q
  rotate_left
  · simp only [q3, not_false_iff, if_true]; exact sb_Wsome (sb_Wneg (by omega) (sb_Wsome rfl))
  simp only [q3, and_self, not_true, if_false]
  obtain ⟨r, hr, rfl⟩ := sb_an3 q3
  obtain ⟨a, ha, rfl⟩ := sb_an3 (x := x2) (b := 7) ⟨by omega, q2⟩
  have kr := sb_kn_rg (hW.2.2.1 r hr)
  rw [sb_row (by omega)]
  refine sb_Wbind (sb_Wsome (sb_Wpos (sb_ok91 (by omega)) ?_))
  rw [sb_kind_X hX hr, sb_kind_M hW hM hr, sb_in_n kr.1]
  generalize hk : (sb_kn (R r)).toNat = k
  have k7 : k < 7 := by omega
  refine sb_Wbind (sb_Wsome ?_)
  rw [sb_under hO.2.2.2.2 k7 ha]
  refine sb_Wbind (sb_Wsome ?_)
  simp only [sb_tn (show a ≤ 2147483647 by omega), sb_bz]
  have e0 : (sb_n a = (0 : Int32)) = (a = 0) := by rw [show (0 : Int32) = sb_n 0 from rfl]; exact sb_n_eq (by omega) (by omega)
  have e1 : (sb_n k = sb_n a) = (k = a) := sb_n_eq (by omega) (by omega)
  have e2 : (sb_n a = (1 : Int32)) = (a = 1) := by rw [show (1 : Int32) = sb_n 1 from rfl]; exact sb_n_eq (by omega) (by omega)
  have e3 : (sb_n k = (4 : Int32)) = (k = 4) := by rw [show (4 : Int32) = sb_n 4 from rfl]; exact sb_n_eq (by omega) (by omega)
  have Mside : ∀ v : Int32, v = (if a = 0 ∨ k = a ∨ (a = 1 ∧ k = 4) then sb_n k else (-12 : Int32)) → sb_W (if ¬(0 ≤ (a : Int) ∧ (a : Int) ≤ 6) then some (-2 : Int32) else (some (sb_n k)).bind fun r3 => if sb_n a = 0 then some r3 else if r3 = sb_n a then some r3 else if sb_n a = 1 then if r3 = 4 then some r3 else some (-12 : Int32) else some (-12 : Int32)) (fun q => q = v) := by
    intro v hv
    refine sb_Wneg (by omega) (sb_Wbind (sb_Wsome ?_))
    simp only [e0, e1, e2, e3]
    by_cases w1 : a = 0
    · exact sb_Wpos w1 (sb_Wsome (by rw [hv, if_pos (Or.inl w1)]))
    refine sb_Wneg w1 ?_
    by_cases w2 : k = a
    · exact sb_Wpos w2 (sb_Wsome (by rw [hv, if_pos (Or.inr (Or.inl w2))]))
    refine sb_Wneg w2 ?_
    by_cases w3 : a = 1
    · refine sb_Wpos w3 ?_
      by_cases w4 : k = 4
      · exact sb_Wpos w4 (sb_Wsome (by rw [hv, if_pos (Or.inr (Or.inr ⟨w3, w4⟩))]))
      · exact sb_Wneg w4 (sb_Wsome (by rw [hv, if_neg (by omega)]))
    · exact sb_Wneg w3 (sb_Wsome (by rw [hv, if_neg (by omega)]))
  by_cases w : a = 0 ∨ k = a ∨ (a = 1 ∧ k = 4)
  · refine sb_Wneg (fun z => z w) (sb_Wsome (Mside _ ?_))
    rw [if_pos w]
  · refine sb_Wpos w (sb_Wsome (Mside _ ?_))
    rw [if_neg w]
end ASK3
