/-! calls that change: pass, want, truck, listless -/
section MK1
variable {N K td Q T W Z : Nat} {A B O ZK : Nat → Nat} {M LO LD : Nat → Int} {LE : Nat → List sb_EF} {R TK WK : Nat → Nat → Int} {s : sv_S}
variable {x1 x2 x3 x4 x5 x6 x7 : Int32}
theorem sb_c_pass (h : sb_J s) : sb_m11 (F_X_pass x1 s) (F_Mo_pass x1) s := by
  obtain ⟨N, A, B, M, O, K, LO, LD, LE, td, Q, R, T, TK, W, WK, Z, ZK, h⟩ := h
  have hj := sb_J_of h
  have kr := sb_keep_refl s
  obtain ⟨hW, hM, hX, hO, hB⟩ := h
  have hQ := hW.2.1
  have td9 := hW.1
  unfold sb_m11
  have z1 : (x1 < (1 : Int32)) = (x1.toInt < 1) := by rw [show (1 : Int32) = sb_n 1 from rfl]; exact sb_c_ltn (by omega)
  have z2 : ((400 : Int32) < x1) = (400 < x1.toInt) := by rw [show (400 : Int32) = sb_n 400 from rfl]; exact sb_n_ltc (by omega)
  simp only [F_X_pass, F_Mo_pass, z1, z2, hX.2.2.2.1, sb_g_owner, sb_g_station, sb_g_good, sb_g_tape, sb_g_day, sb_g_tons, sb_g_stations, sb_g_no1, sb_h_owner, sb_h_station, sb_h_good, sb_h_day, sb_h_tons, sb_h_tape, sb_h_inL, Option.bind_some, sb_bz, Int32.reduceToInt, sb_m1t, sb_m3t]
  by_cases q1 : x1.toInt < 1
  · rw [if_pos q1]
    exact sb_Wsome ⟨kr, sb_Wpos (by omega) (sb_Wsome ⟨rfl, hj, kr⟩)⟩
  rw [if_neg q1]
  by_cases q2 : 400 < x1.toInt
  · rw [if_pos q2]
    exact sb_Wsome ⟨kr, sb_Wpos (by omega) (sb_Wsome ⟨rfl, hj, kr⟩)⟩
  rw [if_neg q2]
  obtain ⟨a, ha, rfl⟩ := sb_an2 (x := x1) (b := 400) ⟨by omega, by omega⟩
  rw [sb_tn (by omega)] at q1 q2
  simp only [sb_tn (show a ≤ 2147483647 by omega)]
  rw [sb_n_add]
  have z3 : (sb_n (td + a) ≤ (9999 : Int32)) = (td + a ≤ 9999) := by rw [show (9999 : Int32) = sb_n 9999 from rfl]; exact sb_n_le (by omega) (by omega)
  simp only [z3]
  by_cases q3 : td + a ≤ 9999
  · rw [if_pos q3]
    refine sb_Wlet (sb_Wsome ?_)
    have f1 : sb_fr [64009] s (ss_setI s 64 9 (sb_n (td + a))) := sb_fr_set (sb_fr_refl _ _) rfl
    have X1 := sb_MX_td (td' := td + a) hQ hX f1 (by decide) (by decide) sb_set_eq
    have M1 := sb_MM_fr hM f1 (by decide)
    have O1 := sb_Jo_set (c := 64) (k := 9) (v := sb_n (td + a)) hO rfl
    have k1 : sb_keep s (ss_setI s 64 9 (sb_n (td + a))) := sb_keep_fr f1 rfl
    refine ⟨k1, ?_⟩
    dsimp only
    rw [sb_set_eq]
    generalize ss_setI s 64 9 (sb_n (td + a)) = u at *
    refine sb_Wneg (by omega) ?_
    rw [M1.2.2.1, sb_n_add]
    simp only [z3]
    refine sb_Wpos q3 (sb_Wlet (sb_Wsome ⟨(sb_set_eq : (ss_setI u 187 0 (sb_n (td + a))).1 187 0 = _), ?_, ?_⟩))
    · have f2 : sb_fr [187000] u (ss_setI u 187 0 (sb_n (td + a))) := sb_fr_set (sb_fr_refl _ _) rfl
      refine sb_J_of (td := td + a) ⟨⟨q3, hW.2.1, hW.2.2.1, hW.2.2.2.1, fun t ht => ?_, hW.2.2.2.2.2⟩, sb_MM_td M1 f2 (by decide) sb_set_eq, sb_MX_fr hQ X1 f2 (by decide) (by decide), sb_Jo_set O1 rfl, ?_⟩
      · have := hW.2.2.2.2.1 t ht; unfold sb_tok at this ⊢; omega
      · show u.2.2.2.2.2 ≤ 400 * K
        have : u.2 = s.2 := f1.2
        rw [this]; exact hB
    · exact sb_keep_trans k1 (sb_keep_fr (L := [187000]) (sb_fr_set (sb_fr_refl _ _) rfl) rfl)
  · rw [if_neg q3]
    refine sb_Wsome ⟨kr, sb_Wneg (by omega) ?_⟩
    rw [hM.2.2.1, sb_n_add]
    simp only [z3]
    exact sb_Wneg q3 (sb_Wsome ⟨rfl, hj, kr⟩)
theorem sb_c_listless (h : sb_J s) : sb_m11 (F_X_listless s) F_Mo_listless s := by
  obtain ⟨N, A, B, M, O, K, LO, LD, LE, td, Q, R, T, TK, W, WK, Z, ZK, h⟩ := h
  obtain ⟨hW, hM, hX, hO, hB⟩ := h
  have hQ := hW.2.1
  unfold sb_m11 F_X_listless F_Mo_listless
  have f1 : sb_fr [163014] s (ss_setI s 163 14 (0 : Int32)) := sb_fr_set (sb_fr_refl _ _) rfl
  have X1 := sb_MX_Z (Z' := 0) (ZK' := ZK) hQ hX f1 (by decide) (by decide) ⟨sb_set_eq, fun z hz => absurd hz (by omega)⟩
  have M1 := sb_MM_fr hM f1 (by decide)
  have O1 := sb_Jo_set (c := 163) (k := 14) (v := (0 : Int32)) hO rfl
  have k1 : sb_keep s (ss_setI s 163 14 (0 : Int32)) := sb_keep_fr f1 rfl
  simp only [ss_let]
  refine sb_Wsome ⟨k1, ?_⟩
  dsimp only
  generalize ss_setI s 163 14 (0 : Int32) = u at *
  have f2 : sb_fr [187069] u (ss_setI u 187 69 (0 : Int32)) := sb_fr_set (sb_fr_refl _ _) rfl
  refine sb_Wsome ⟨?_, ?_, sb_keep_trans k1 (sb_keep_fr f2 rfl)⟩
  · rw [hX.2.2.2.2.2.2.2.1, M1.2.2.2.2.2.2.1]
  · refine sb_J_of (Z := 0) (ZK := ZK) ⟨⟨hW.1, hW.2.1, hW.2.2.1, hW.2.2.2.1, hW.2.2.2.2.1, hW.2.2.2.2.2.1, hW.2.2.2.2.2.2.1, by omega, fun z hz => absurd hz (by omega), fun z y hz => absurd hz (by omega)⟩, sb_MM_Z M1 f2 (by decide) ⟨sb_set_eq, fun z hz => absurd hz (by omega)⟩, sb_MX_fr hQ X1 f2 (by decide) (by decide), sb_Jo_set O1 rfl, ?_⟩
    show u.2.2.2.2.2 ≤ 400 * K
    have : u.2 = s.2 := f1.2
    rw [this]; exact hB
end MK1
