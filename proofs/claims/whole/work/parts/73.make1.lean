/-! calls that change: pass, want, truck, listless -/
section MK1
variable {N K td Q T W Z : Nat} {A B O ZK : Nat → Nat} {M LO LD : Nat → Int} {LE : Nat → List zb_EF} {R TK WK : Nat → Nat → Int} {s : sv_S}
variable {x1 x2 x3 x4 x5 x6 x7 : Int32}
theorem zb_c_pass (h : zb_J s) : zb_m11 (F_X_pass x1 s) (F_Mo_pass x1) s := by
  obtain ⟨N, A, B, M, O, K, LO, LD, LE, td, Q, R, T, TK, W, WK, Z, ZK, h⟩ := h
  have hj := zb_J_of h
  have kr := zb_keep_refl s
  obtain ⟨hW, hM, hX, hO, hB⟩ := h
  have hQ := hW.2.1
  have td9 := hW.1
  unfold zb_m11
  have z1 : (x1 < (1 : Int32)) = (x1.toInt < 1) := by rw [show (1 : Int32) = zb_n 1 from rfl]; exact zb_c_ltn (by omega)
  have z2 : ((400 : Int32) < x1) = (400 < x1.toInt) := by rw [show (400 : Int32) = zb_n 400 from rfl]; exact zb_n_ltc (by omega)
  simp only [F_X_pass, F_Mo_pass, z1, z2, hX.2.2.2.1, zb_g_owner, zb_g_station, zb_g_good, zb_g_tape, zb_g_day, zb_g_tons, zb_g_stations, zb_g_no1, zb_h_owner, zb_h_station, zb_h_good, zb_h_day, zb_h_tons, zb_h_tape, zb_h_inL, Option.bind_some, zb_bz, Int32.reduceToInt, zb_m1t, zb_m3t]
  by_cases q1 : x1.toInt < 1
  · rw [if_pos q1]
    exact zb_Wsome ⟨kr, zb_Wpos (by omega) (zb_Wsome ⟨rfl, hj, kr⟩)⟩
  rw [if_neg q1]
  by_cases q2 : 400 < x1.toInt
  · rw [if_pos q2]
    exact zb_Wsome ⟨kr, zb_Wpos (by omega) (zb_Wsome ⟨rfl, hj, kr⟩)⟩
  rw [if_neg q2]
  obtain ⟨a, ha, rfl⟩ := zb_an2 (x := x1) (b := 400) ⟨by omega, by omega⟩
  rw [zb_tn (by omega)] at q1 q2
  simp only [zb_tn (show a ≤ 2147483647 by omega)]
  rw [zb_n_add]
  have z3 : (zb_n (td + a) ≤ (9999 : Int32)) = (td + a ≤ 9999) := by rw [show (9999 : Int32) = zb_n 9999 from rfl]; exact zb_n_le (by omega) (by omega)
  simp only [z3]
  by_cases q3 : td + a ≤ 9999
  · rw [if_pos q3]
    refine zb_Wlet (zb_Wsome ?_)
    have f1 : zb_fr [64009] s (ss_setI s 64 9 (zb_n (td + a))) := zb_fr_set (zb_fr_refl _ _) rfl
    have X1 := zb_MX_td (td' := td + a) hQ hX f1 (by decide) (by decide) zb_set_eq
    have M1 := zb_MM_fr hM f1 (by decide)
    have O1 := zb_Jo_set (c := 64) (k := 9) (v := zb_n (td + a)) hO rfl
    have k1 : zb_keep s (ss_setI s 64 9 (zb_n (td + a))) := zb_keep_fr f1 rfl
    refine ⟨k1, ?_⟩
    dsimp only
    rw [zb_set_eq]
    generalize ss_setI s 64 9 (zb_n (td + a)) = u at *
    refine zb_Wneg (by omega) ?_
    rw [M1.2.2.1, zb_n_add]
    simp only [z3]
    refine zb_Wpos q3 (zb_Wlet (zb_Wsome ⟨(zb_set_eq : (ss_setI u 187 0 (zb_n (td + a))).1 187 0 = _), ?_, ?_⟩))
    · have f2 : zb_fr [187000] u (ss_setI u 187 0 (zb_n (td + a))) := zb_fr_set (zb_fr_refl _ _) rfl
      refine zb_J_of (td := td + a) ⟨⟨q3, hW.2.1, hW.2.2.1, hW.2.2.2.1, fun t ht => ?_, hW.2.2.2.2.2⟩, zb_MM_td M1 f2 (by decide) zb_set_eq, zb_MX_fr hQ X1 f2 (by decide) (by decide), zb_Jo_set O1 rfl, ?_⟩
      · have := hW.2.2.2.2.1 t ht; unfold zb_tok at this ⊢; omega
      · show u.2.2.2.2.2 ≤ 400 * K
        have : u.2 = s.2 := f1.2
        rw [this]; exact hB
    · exact zb_keep_trans k1 (zb_keep_fr (L := [187000]) (zb_fr_set (zb_fr_refl _ _) rfl) rfl)
  · rw [if_neg q3]
    refine zb_Wsome ⟨kr, zb_Wneg (by omega) ?_⟩
    rw [hM.2.2.1, zb_n_add]
    simp only [z3]
    exact zb_Wneg q3 (zb_Wsome ⟨rfl, hj, kr⟩)
theorem zb_c_listless (h : zb_J s) : zb_m11 (F_X_listless s) F_Mo_listless s := by
  obtain ⟨N, A, B, M, O, K, LO, LD, LE, td, Q, R, T, TK, W, WK, Z, ZK, h⟩ := h
  obtain ⟨hW, hM, hX, hO, hB⟩ := h
  have hQ := hW.2.1
  unfold zb_m11 F_X_listless F_Mo_listless
  have f1 : zb_fr [163014] s (ss_setI s 163 14 (0 : Int32)) := zb_fr_set (zb_fr_refl _ _) rfl
  have X1 := zb_MX_Z (Z' := 0) (ZK' := ZK) hQ hX f1 (by decide) (by decide) ⟨zb_set_eq, fun z hz => absurd hz (by omega)⟩
  have M1 := zb_MM_fr hM f1 (by decide)
  have O1 := zb_Jo_set (c := 163) (k := 14) (v := (0 : Int32)) hO rfl
  have k1 : zb_keep s (ss_setI s 163 14 (0 : Int32)) := zb_keep_fr f1 rfl
  simp only [ss_let]
  refine zb_Wsome ⟨k1, ?_⟩
  dsimp only
  generalize ss_setI s 163 14 (0 : Int32) = u at *
  have f2 : zb_fr [187069] u (ss_setI u 187 69 (0 : Int32)) := zb_fr_set (zb_fr_refl _ _) rfl
  refine zb_Wsome ⟨?_, ?_, zb_keep_trans k1 (zb_keep_fr f2 rfl)⟩
  · rw [hX.2.2.2.2.2.2.2.1, M1.2.2.2.2.2.2.1]
  · refine zb_J_of (Z := 0) (ZK := ZK) ⟨⟨hW.1, hW.2.1, hW.2.2.1, hW.2.2.2.1, hW.2.2.2.2.1, hW.2.2.2.2.2.1, hW.2.2.2.2.2.2.1, by omega, fun z hz => absurd hz (by omega), fun z y hz => absurd hz (by omega)⟩, zb_MM_Z M1 f2 (by decide) ⟨zb_set_eq, fun z hz => absurd hz (by omega)⟩, zb_MX_fr hQ X1 f2 (by decide) (by decide), zb_Jo_set O1 rfl, ?_⟩
    show u.2.2.2.2.2 ≤ 400 * K
    have : u.2 = s.2 := f1.2
    rw [this]; exact hB
end MK1
