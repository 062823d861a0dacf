/-! of, count, ended, trace, taken -/
section ASK3
variable {N K td Q T W Z : Nat} {A B O ZK : Nat → Nat} {M LO LD : Nat → Int} {LE : Nat → List zb_EF} {R TK WK : Nat → Nat → Int} {s : sv_S}
variable {x1 x2 x3 x4 x5 x6 x7 : Int32}
theorem zb_c_count (h : zb_J s) : zb_m00 (F_X_count x1 s) (F_Mo_count x1) s := by
  obtain ⟨N, A, B, M, O, K, LO, LD, LE, td, Q, R, T, TK, W, WK, Z, ZK, h⟩ := h
  obtain ⟨hW, hM, hX, hO, hB⟩ := h
  obtain ⟨⟨n, t1, t2, t3, t4⟩, ⟨m, a1, a2, a3, a4⟩, _⟩ := hO
  unfold zb_m00 F_X_count F_Mo_count
  rw [hX.2.2.2.1, hX.1.1, hX.2.1.1.2.1, hX.2.2.2.2.1.1, hX.2.2.2.2.2.1.1, hX.2.2.2.2.2.2.1.1, hX.2.2.2.2.2.2.2.1, t2, a2, hM.2.2.1, hM.1.2.1, hM.2.1.2.1, hM.2.2.2.1.1, hM.2.2.2.2.1.1, hM.2.2.2.2.2.1.1, hM.2.2.2.2.2.2.1, t3, a3]
  by_cases q0 : x1 = 0
  · rw [if_pos q0]; exact zb_Wsome (zb_Wsome rfl)
  rw [if_neg q0]
  by_cases q1 : x1 = 1
  · rw [if_pos q1]; exact zb_Wsome (zb_Wsome rfl)
  rw [if_neg q1]
  by_cases q2 : x1 = 2
  · rw [if_pos q2]; exact zb_Wsome (zb_Wsome rfl)
  rw [if_neg q2]
  by_cases q3 : x1 = 3
  · rw [if_pos q3]; exact zb_Wsome (zb_Wsome rfl)
  rw [if_neg q3]
  by_cases q4 : x1 = 4
  · rw [if_pos q4]; exact zb_Wsome (zb_Wsome rfl)
  rw [if_neg q4]
  by_cases q5 : x1 = 5
  · rw [if_pos q5]; exact zb_Wsome (zb_Wsome rfl)
  rw [if_neg q5]
  by_cases q6 : x1 = 6
  · rw [if_pos q6]; exact zb_Wsome (zb_Wsome rfl)
  rw [if_neg q6]
  by_cases q7 : x1 = 7
  · rw [if_pos q7]; exact zb_Wsome (zb_Wsome rfl)
  rw [if_neg q7]
  by_cases q8 : x1 = 8
  · rw [if_pos q8]; exact zb_Wsome (zb_Wsome rfl)
  rw [if_neg q8]; exact zb_Wsome (zb_Wsome rfl)
theorem zb_c_ended (h : zb_J s) : zb_m00 (F_X_ended s) F_Mo_ended s := by
  obtain ⟨N, A, B, M, O, K, LO, LD, LE, td, Q, R, T, TK, W, WK, Z, ZK, h⟩ := h
  obtain ⟨e, e1, e2, e3, e4⟩ := h.2.2.2.1.2.2.2.1
  unfold zb_m00 F_X_ended F_Mo_ended
  rw [e3, e4]
  refine zb_Wsome ?_
  by_cases q : e < 0
  · rw [if_pos q]
    exact zb_Wneg (by rw [show (0 : Int32) = zb_i 0 from zb_n_i 0, zb_i_le (by omega) (by omega) (by omega) (by omega)]; omega) (zb_Wsome zb_m3)
  · rw [if_neg q]
    exact zb_Wpos (zb_ge0 (by omega) (by omega)) (zb_Wsome rfl)
theorem zb_c_trace (h : zb_J s) : zb_m00 (F_X_trace x1 s) (F_Mo_trace x1) s := by
  obtain ⟨N, A, B, M, O, K, LO, LD, LE, td, Q, R, T, TK, W, WK, Z, ZK, h⟩ := h
  obtain ⟨m, a1, a2, a3, a4⟩ := h.2.2.2.1.2.1
  unfold zb_m00
  have z1 : (x1 < (0 : Int32)) = (x1.toInt < 0) := by rw [show (0 : Int32) = zb_n 0 from rfl]; exact zb_c_ltn (by omega)
  have z2 : (zb_n m ≤ x1) = ((m : Int) ≤ x1.toInt) := zb_n_lec (by omega)
  have z3 : ((20 : Int32) ≤ x1) = (20 ≤ x1.toInt) := by rw [show (20 : Int32) = zb_n 20 from rfl]; exact zb_n_lec (by omega)
  simp only [F_X_trace, F_Ac_keeps, F_Mo_trace, a2, a3, z1, z2, z3, zb_g_owner, zb_g_station, zb_g_good, zb_g_tape, zb_g_day, zb_g_tons, zb_g_stations, zb_g_no1, zb_h_owner, zb_h_station, zb_h_good, zb_h_day, zb_h_tons, zb_h_tape, zb_h_inL, Option.bind_some, zb_bz, Int32.reduceToInt, zb_m1t, zb_m3t]
  by_cases q1 : x1.toInt < 0
  · rw [if_pos q1]
    exact zb_Wbind (zb_Wsome (zb_Wpos rfl (zb_Wsome (zb_Wpos (by omega) (zb_Wsome rfl)))))
  rw [if_neg q1]
  by_cases q2 : (m : Int) ≤ x1.toInt
  · rw [if_pos q2]
    refine zb_Wbind (zb_Wsome (zb_Wpos rfl (zb_Wsome ?_)))
    exact zb_Wif (fun _ => zb_Wsome rfl) (fun _ => zb_Wpos q2 (zb_Wsome rfl))
  rw [if_neg q2]
  by_cases q3 : 20 ≤ x1.toInt
  · rw [if_pos q3]
    exact zb_Wbind (zb_Wsome (zb_Wpos rfl (zb_Wsome (zb_Wpos (by omega) (zb_Wsome rfl)))))
  rw [if_neg q3]
  refine zb_Wbind (zb_Wsome (zb_Wneg (by decide) ?_))
  obtain ⟨a, ha, rfl⟩ := zb_an2 (x := x1) (b := 19) ⟨by omega, by omega⟩
  rw [zb_tn (by omega)] at q1 q2 q3
  refine zb_Wpos (by first | omega | (simp (disch := omega) only [zb_lit, zb_n_add, zb_n_mul, zb_n_ix, zb_n_lt, zb_n_le, zb_n_eq, zb_ib_n] <;> omega)) ?_
  rw [zb_n_ix (by omega)]
  simp only [zb_tn (show a ≤ 2147483647 by omega)]
  refine zb_Wsome (zb_Wneg (by omega) (zb_Wneg (by omega) ?_))
  refine zb_Wpos (by first | omega | (simp (disch := omega) only [zb_lit, zb_n_add, zb_n_mul, zb_n_ix, zb_n_lt, zb_n_le, zb_n_eq, zb_ib_n] <;> omega)) ?_
  exact zb_Wsome (a4 a (by omega) (by omega)).symm
/-- a rate's kind now -/
def zb_kn (f : Nat → Int) : Int := if 0 ≤ f 8 then 6 else f 1
theorem zb_kind_X (h : zb_MX N A B M O K LO LD LE td Q R T TK W WK Z ZK s) {r : Nat} (hr : r < Q) : F_Ra_kind (91 + r) s = some (zb_i (zb_kn (R r))) := by
  unfold F_Ra_kind zb_kn
  rw [(h.2.2.2.2.1.2.1 r hr).2.2, zb_fld h hr (f := 1) (by omega) (by omega)]
  by_cases q : 0 ≤ R r 8
  · rw [if_pos q, decide_eq_true q, if_neg (by decide)]; rfl
  · rw [if_neg q, decide_eq_false q, if_pos (by decide)]
theorem zb_kind_M (hW : zb_MW N A B M O K LO LD LE td Q R T TK W WK Z ZK) (h : zb_MM N A B M O K LO LD LE td Q R T TK W WK Z ZK s) {r : Nat} (hr : r < Q) : F_Mo_nowKind (zb_n r) s = some (zb_i (zb_kn (R r))) := by
  have hQ := hW.2.1
  have rk := hW.2.2.1 r hr
  have ir : sv_ib (zb_n r) 60 = true := by rw [zb_ib_n (by omega)]; omega
  unfold F_Mo_nowKind zb_kn
  rw [if_pos ir, zb_n_ix (by omega), zb_fldM h.2.2.2.1 hr (f := 8) (c := 212) (by omega) (by omega) rfl, zb_fldM h.2.2.2.1 hr (f := 1) (c := 205) (by omega) (by omega) rfl]
  have h8 := rk.2.2.2.2.2.2.2.2.1
  by_cases q : 0 ≤ R r 8
  · rw [if_pos q, if_neg (zb_ge0' q (by omega))]; rfl
  · rw [if_neg q, if_pos (by rw [show (0 : Int32) = zb_i 0 from zb_n_i 0, zb_i_lt (by omega) (by omega) (by omega) (by omega)]; omega), if_pos ir]
theorem zb_kn_rg {r : Nat} {f : Nat → Int} (h : zb_rok r f) : 0 ≤ zb_kn f ∧ zb_kn f ≤ 6 := by
  unfold zb_kn; have := h.1; split <;> omega
theorem zb_c_of (h : zb_J s) : zb_m00 (F_X_of x1 x2 s) (F_Mo_of x1 x2) s := by
  obtain ⟨N, A, B, M, O, K, LO, LD, LE, td, Q, R, T, TK, W, WK, Z, ZK, h⟩ := h
  obtain ⟨hW, hM, hX, hO, hB⟩ := h
  have hQ := hW.2.1
  unfold zb_m00
  simp only [F_X_of, F_Mo_of, zb_g_rate hX hQ, zb_h_rate hM hQ, zb_g_owner, zb_g_station, zb_g_good, zb_g_tape, zb_g_day, zb_g_tons, zb_g_stations, zb_g_no1, zb_h_owner, zb_h_station, zb_h_good, zb_h_day, zb_h_tons, zb_h_tape, zb_h_inL, Option.bind_some, zb_bz, Int32.reduceToInt, zb_m1t, zb_m3t]
  by_cases q1 : 0 ≤ x1.toInt ∧ x1.toInt < Q
  rotate_left
  · simp only [q1, not_false_iff, if_true]; exact zb_Wsome (zb_Wsome rfl)
  simp only [q1, and_self, not_true, if_false]
  obtain ⟨r, hr, rfl⟩ := zb_an3 q1
  rw [zb_row (by omega)]
  refine zb_Wbind (zb_Wsome (zb_Wpos (zb_ok91 (by omega)) ?_))
  unfold F_Ra_fact
  have ir : sv_ib (zb_n r) 60 = true := by rw [zb_ib_n (by omega)]; omega
  have fM := fun f c (h1 : 1 ≤ f) (h2 : f ≤ 10) (h3 : 204 + f = c) => zb_fldM hM.2.2.2.1 hr (f := f) (c := c) h1 h2 h3
  rw [zb_kind_X hX hr, zb_kind_M hW hM hr, zb_n_ix (by omega), zb_fld hX hr (f := 1) (by omega) (by omega), zb_fld hX hr (f := 2) (by omega) (by omega), zb_fld hX hr (f := 3) (by omega) (by omega), zb_fld hX hr (f := 4) (by omega) (by omega), zb_fld hX hr (f := 5) (by omega) (by omega), zb_fld hX hr (f := 6) (by omega) (by omega), zb_fld hX hr (f := 7) (by omega) (by omega), zb_fld hX hr (f := 8) (by omega) (by omega), zb_fld hX hr (f := 9) (by omega) (by omega), zb_fld hX hr (f := 10) (by omega) (by omega), fM 1 205 (by omega) (by omega) rfl, fM 2 206 (by omega) (by omega) rfl, fM 3 207 (by omega) (by omega) rfl, fM 4 208 (by omega) (by omega) rfl, fM 5 209 (by omega) (by omega) rfl, fM 6 210 (by omega) (by omega) rfl, fM 7 211 (by omega) (by omega) rfl, fM 8 212 (by omega) (by omega) rfl, fM 9 213 (by omega) (by omega) rfl, fM 10 214 (by omega) (by omega) rfl]
  simp only [ir, if_true, Option.bind_some]
  by_cases w0 : x2 = 0
  · simp only [w0, if_true, Option.bind_some]; exact zb_Wsome (zb_Wsome rfl)
  simp only [w0, if_false]
  by_cases w1 : x2 = 1
  · simp only [w1, if_true, Option.bind_some]; exact zb_Wsome (zb_Wsome rfl)
  simp only [w1, if_false]
  by_cases w2 : x2 = 2
  · simp only [w2, if_true, Option.bind_some]; exact zb_Wsome (zb_Wsome rfl)
  simp only [w2, if_false]
  by_cases w3 : x2 = 3
  · simp only [w3, if_true, Option.bind_some]; exact zb_Wsome (zb_Wsome rfl)
  simp only [w3, if_false]
  by_cases w4 : x2 = 4
  · simp only [w4, if_true, Option.bind_some]; exact zb_Wsome (zb_Wsome rfl)
  simp only [w4, if_false]
  by_cases w5 : x2 = 5
  · simp only [w5, if_true, Option.bind_some]; exact zb_Wsome (zb_Wsome rfl)
  simp only [w5, if_false]
  by_cases w6 : x2 = 6
  · simp only [w6, if_true, Option.bind_some]; exact zb_Wsome (zb_Wsome rfl)
  simp only [w6, if_false]
  by_cases w7 : x2 = 7
  · simp only [w7, if_true, Option.bind_some]; exact zb_Wsome (zb_Wsome rfl)
  simp only [w7, if_false]
  by_cases w8 : x2 = 8
  · simp only [w8, if_true, Option.bind_some]; exact zb_Wsome (zb_Wsome rfl)
  simp only [w8, if_false]
  by_cases w9 : x2 = 9
  · simp only [w9, if_true, Option.bind_some]; exact zb_Wsome (zb_Wsome rfl)
  simp only [w9, if_false]
  by_cases w10 : x2 = 10
  · simp only [w10, if_true, Option.bind_some]; exact zb_Wsome (zb_Wsome rfl)
  simp only [w10, if_false, Option.bind_some]; exact zb_Wsome (zb_Wsome rfl)
/-- one kind under another -/
theorem zb_under (hB : zb_JB s) {k a : Nat} (hk : k < 7) (ha : a < 7) : F_Ac_isUnder (zb_n k) (zb_n a) s = some (zb_b (decide (a = 0 ∨ k = a ∨ (a = 1 ∧ k = 4)))) := by
  have st : ∀ (f j k : Nat), k < 7 → j < 7 → F_Ac_isUnder_b4 s (f + 1) (zb_n a) (zb_n k) (zb_n j) = if k = a then some (zb_n 1) else F_Ac_isUnder_b4 s f (zb_n a) (zb_i (zb_aL.getD k 0)) (zb_n (j + 1)) := by
    intro f j k hk hj
    simp only [F_Ac_isUnder_b4, ss_let]
    rw [zb_m1, if_neg (by rw [show (7 : Int32) = zb_n 7 from rfl, zb_n_le (by omega) (by omega)]; omega), if_neg (by rw [zb_n_i, zb_i_eq (by omega) (by omega) (by omega) (by omega)]; omega)]
    by_cases e : k = a
    · rw [if_pos e, if_pos (by rw [e])]; rfl
    · rw [if_neg e, if_neg (by rw [zb_n_eq (by omega) (by omega)]; exact e), if_pos (by rw [zb_ib_n (by omega)]; exact hk), zb_n_ix (by omega), hB.1 k hk, show zb_n j + (1 : Int32) = zb_n (j + 1) from zb_n_add j 1]
  have en : ∀ f j : Nat, j < 7 → F_Ac_isUnder_b4 s (f + 1) (zb_n a) (zb_i (-1)) (zb_n j) = some (zb_n 0) := by
    intro f j hj
    simp only [F_Ac_isUnder_b4]
    rw [zb_m1, if_neg (by rw [show (7 : Int32) = zb_n 7 from rfl, zb_n_le (by omega) (by omega)]; omega), if_pos rfl]; rfl
  unfold F_Ac_isUnder
  rw [show ss_F = 8188 + 1 + 1 + 1 + 1 from rfl, show (0 : Int32) = zb_n 0 from rfl, st _ 0 k hk (by omega)]
  have zero : ∀ f j : Nat, j + 1 < 7 → F_Ac_isUnder_b4 s (f + 1 + 1) (zb_n a) (zb_i 0) (zb_n j) = some (zb_b (decide (a = 0))) := by
    intro f j hj
    rw [show zb_i 0 = zb_n 0 from (zb_n_i 0).symm, st (f + 1) j 0 (by omega) (by omega)]
    by_cases e : a = 0
    · rw [if_pos e.symm, decide_eq_true e]; rfl
    · rw [if_neg (fun z => e z.symm), show zb_aL.getD 0 0 = -1 from rfl, en f (j + 1) hj, decide_eq_false e]; rfl
  have : k = 0 ∨ k = 1 ∨ k = 2 ∨ k = 3 ∨ k = 4 ∨ k = 5 ∨ k = 6 := by omega
  by_cases e : k = a
  · rw [if_pos e, decide_eq_true (Or.inr (Or.inl e))]; rfl
  rw [if_neg e]
  rcases this with rfl | rfl | rfl | rfl | rfl | rfl | rfl
  · rw [show zb_aL.getD 0 0 = -1 from rfl, en _ 1 (by omega), decide_eq_false (by omega)]; rfl
  · rw [show zb_aL.getD 1 0 = 0 from rfl, zero _ 1 (by omega)]; congr 2; exact decide_eq_decide.mpr (by omega)
  · rw [show zb_aL.getD 2 0 = 0 from rfl, zero _ 1 (by omega)]; congr 2; exact decide_eq_decide.mpr (by omega)
  · rw [show zb_aL.getD 3 0 = 0 from rfl, zero _ 1 (by omega)]; congr 2; exact decide_eq_decide.mpr (by omega)
  · rw [show zb_aL.getD 4 0 = 1 from rfl, show zb_i 1 = zb_n 1 from (zb_n_i 1).symm, st _ 1 1 (by omega) (by omega)]
    by_cases e2 : 1 = a
    · rw [if_pos e2, decide_eq_true (Or.inr (Or.inr ⟨e2.symm, rfl⟩))]; rfl
    · rw [if_neg e2, show zb_aL.getD 1 0 = 0 from rfl, zero _ 2 (by omega)]; congr 2; exact decide_eq_decide.mpr (by omega)
  · rw [show zb_aL.getD 5 0 = 0 from rfl, zero _ 1 (by omega)]; congr 2; exact decide_eq_decide.mpr (by omega)
  · rw [show zb_aL.getD 6 0 = 0 from rfl, zero _ 1 (by omega)]; congr 2; exact decide_eq_decide.mpr (by omega)
theorem zb_c_taken (h : zb_J s) : zb_m00 (F_X_taken x1 x2 s) (F_Mo_taken x1 x2) s := by
  obtain ⟨N, A, B, M, O, K, LO, LD, LE, td, Q, R, T, TK, W, WK, Z, ZK, h⟩ := h
  obtain ⟨hW, hM, hX, hO, hB⟩ := h
  have hQ := hW.2.1
  unfold zb_m00
  have z1 : (x2 < (0 : Int32)) = (x2.toInt < 0) := by rw [show (0 : Int32) = zb_n 0 from rfl]; exact zb_c_ltn (by omega)
  have z2 : (x2 < (7 : Int32)) = (x2.toInt < 7) := by rw [show (7 : Int32) = zb_n 7 from rfl]; exact zb_c_ltn (by omega)
  simp only [F_X_taken, F_Mo_taken, zb_g_rate hX hQ, zb_h_rate hM hQ, z1, z2, zb_g_owner, zb_g_station, zb_g_good, zb_g_tape, zb_g_day, zb_g_tons, zb_g_stations, zb_g_no1, zb_h_owner, zb_h_station, zb_h_good, zb_h_day, zb_h_tons, zb_h_tape, zb_h_inL, Option.bind_some, zb_bz, Int32.reduceToInt, zb_m1t, zb_m3t]
  by_cases q1 : x2.toInt < 0
  · rw [if_pos q1]; exact zb_Wsome (zb_Wpos (by omega) (zb_Wsome rfl))
  rw [if_neg q1]
  by_cases q2 : x2.toInt < 7
  rotate_left
  · rw [if_neg q2]; exact zb_Wsome (zb_Wpos (by omega) (zb_Wsome rfl))
  rw [if_pos q2]
  by_cases q3 : 0 ≤ x1.toInt ∧ x1.toInt < Q
  rotate_left
  · simp only [q3, not_false_iff, if_true]; exact zb_Wsome (zb_Wneg (by omega) (zb_Wsome rfl))
  simp only [q3, and_self, not_true, if_false]
  obtain ⟨r, hr, rfl⟩ := zb_an3 q3
  obtain ⟨a, ha, rfl⟩ := zb_an3 (x := x2) (b := 7) ⟨by omega, q2⟩
  have kr := zb_kn_rg (hW.2.2.1 r hr)
  rw [zb_row (by omega)]
  refine zb_Wbind (zb_Wsome (zb_Wpos (zb_ok91 (by omega)) ?_))
  rw [zb_kind_X hX hr, zb_kind_M hW hM hr, zb_in_n kr.1]
  generalize hk : (zb_kn (R r)).toNat = k
  have k7 : k < 7 := by omega
  refine zb_Wbind (zb_Wsome ?_)
  rw [zb_under hO.2.2.2.2 k7 ha]
  refine zb_Wbind (zb_Wsome ?_)
  simp only [zb_tn (show a ≤ 2147483647 by omega), zb_bz]
  have e0 : (zb_n a = (0 : Int32)) = (a = 0) := by rw [show (0 : Int32) = zb_n 0 from rfl]; exact zb_n_eq (by omega) (by omega)
  have e1 : (zb_n k = zb_n a) = (k = a) := zb_n_eq (by omega) (by omega)
  have e2 : (zb_n a = (1 : Int32)) = (a = 1) := by rw [show (1 : Int32) = zb_n 1 from rfl]; exact zb_n_eq (by omega) (by omega)
  have e3 : (zb_n k = (4 : Int32)) = (k = 4) := by rw [show (4 : Int32) = zb_n 4 from rfl]; exact zb_n_eq (by omega) (by omega)
  have Mside : ∀ v : Int32, v = (if a = 0 ∨ k = a ∨ (a = 1 ∧ k = 4) then zb_n k else (-12 : Int32)) → zb_W (if ¬(0 ≤ (a : Int) ∧ (a : Int) ≤ 6) then some (-2 : Int32) else (some (zb_n k)).bind fun r3 => if zb_n a = 0 then some r3 else if r3 = zb_n a then some r3 else if zb_n a = 1 then if r3 = 4 then some r3 else some (-12 : Int32) else some (-12 : Int32)) (fun q => q = v) := by
    intro v hv
    refine zb_Wneg (by omega) (zb_Wbind (zb_Wsome ?_))
    simp only [e0, e1, e2, e3]
    by_cases w1 : a = 0
    · exact zb_Wpos w1 (zb_Wsome (by rw [hv, if_pos (Or.inl w1)]))
    refine zb_Wneg w1 ?_
    by_cases w2 : k = a
    · exact zb_Wpos w2 (zb_Wsome (by rw [hv, if_pos (Or.inr (Or.inl w2))]))
    refine zb_Wneg w2 ?_
    by_cases w3 : a = 1
    · refine zb_Wpos w3 ?_
      by_cases w4 : k = 4
      · exact zb_Wpos w4 (zb_Wsome (by rw [hv, if_pos (Or.inr (Or.inr ⟨w3, w4⟩))]))
      · exact zb_Wneg w4 (zb_Wsome (by rw [hv, if_neg (by omega)]))
    · exact zb_Wneg w3 (zb_Wsome (by rw [hv, if_neg (by omega)]))
  by_cases w : a = 0 ∨ k = a ∨ (a = 1 ∧ k = 4)
  · refine zb_Wneg (fun z => z w) (zb_Wsome (Mside _ ?_))
    rw [if_pos w]
  · refine zb_Wpos w (zb_Wsome (Mside _ ?_))
    rw [if_neg w]
end ASK3
