/-! want and truck -/
section MK2
variable {N K td Q T W Z : Nat} {A B O ZK : Nat → Nat} {M LO LD : Nat → Int} {LE : Nat → List zb_EF} {R TK WK : Nat → Nat → Int} {s : sv_S}
variable {x1 x2 x3 x4 x5 x6 x7 : Int32}
theorem zb_eqI (a b : Int32) : (a = b) = (a.toInt = b.toInt) := by rw [Int32.toInt_inj]
theorem zb_put5_fr {c0 k0 c n : Nat} {L : List Nat} (h0 : L.contains (zb_rg c0 k0) = true) (h1 : ∀ f, f < 5 → L.contains (zb_rg (c + f) n) = true) : zb_fr L s (zb_put5 c0 k0 c n x1 x2 x3 x4 x5 s) :=
  zb_fr_set (zb_fr_set (zb_fr_set (zb_fr_set (zb_fr_set (zb_fr_set (zb_fr_refl _ _) (h1 0 (by omega))) (h1 1 (by omega))) (h1 2 (by omega))) (h1 3 (by omega))) (h1 4 (by omega))) h0
theorem zb_f5 {P : Nat → Prop} (h0 : P 0) (h1 : P 1) (h2 : P 2) (h3 : P 3) (h4 : P 4) : ∀ f, f < 5 → P f := zb_five h0 h1 h2 h3 h4
theorem zb_c_want (h : zb_J s) : zb_m11 (F_X_want x1 x2 x3 x4 x5 s) (F_Mo_want x1 x2 x3 x4 x5) s := by
  obtain ⟨N, A, B, M, O, K, LO, LD, LE, td, Q, R, T, TK, W, WK, Z, ZK, h⟩ := h
  have hj := zb_J_of h
  have kr := zb_keep_refl s
  obtain ⟨hW, hM, hX, hO, hB⟩ := h
  have hQ := hW.2.1
  have hW20 := hW.2.2.2.2.2.1
  unfold zb_m11
  have z1 : (x5 < (0 : Int32)) = (x5.toInt < 0) := by rw [show (0 : Int32) = zb_n 0 from rfl]; exact zb_c_ltn (by omega)
  have z2 : (x5 ≤ (999 : Int32)) = (x5.toInt ≤ 999) := by rw [show (999 : Int32) = zb_n 999 from rfl]; exact zb_c_len (by omega)
  have fX : F_Wa_areFull s = some (zb_b (decide (¬ W < 20))) := by
    unfold F_Wa_areFull
    rw [hX.2.2.2.2.2.2.1.1, show (20 : Int32) = zb_n 20 from rfl]
    by_cases q : W < 20
    · rw [if_pos (by rw [zb_n_lt (by omega) (by omega)]; exact q), decide_eq_false (fun z => z q)]; rfl
    · rw [if_neg (by rw [zb_n_lt (by omega) (by omega)]; exact q), decide_eq_true q]; rfl
  simp only [F_X_want, F_Mo_want, z1, z2, fX, zb_g_owner, zb_g_station, zb_g_good, zb_g_tape, zb_g_day, zb_g_tons, zb_g_stations, zb_g_no1, zb_h_owner, zb_h_station, zb_h_good, zb_h_day, zb_h_tons, zb_h_tape, zb_h_inL, Option.bind_some, zb_bz, Int32.reduceToInt, zb_m1t, zb_m3t]
  by_cases q1 : 0 ≤ x1.toInt ∧ x1.toInt ≤ 15
  rotate_left
  · simp only [q1, and_false, false_and, and_true, true_and, and_self, not_true, not_false_iff, if_false, if_true]; exact (zb_Wsome ⟨kr, zb_Wsome ⟨rfl, hj, kr⟩⟩)
  by_cases q2 : 0 ≤ x2.toInt ∧ x2.toInt ≤ 15
  rotate_left
  · simp only [q1, q2, and_false, false_and, and_true, true_and, and_self, not_true, not_false_iff, if_false, if_true]; exact (zb_Wsome ⟨kr, zb_Wsome ⟨rfl, hj, kr⟩⟩)
  by_cases q3 : 0 ≤ x3.toInt ∧ x3.toInt ≤ 19
  rotate_left
  · simp only [q1, q2, q3, and_false, false_and, and_true, true_and, and_self, not_true, not_false_iff, if_false, if_true]; exact (zb_Wsome ⟨kr, zb_Wsome ⟨rfl, hj, kr⟩⟩)
  simp only [q1, q2, q3, and_false, false_and, and_true, true_and, and_self, not_true, not_false_iff, if_false, if_true]
  by_cases q4 : x1 = x2
  · simp only [q4, if_true]; exact zb_Wsome ⟨kr, zb_Wsome ⟨rfl, hj, kr⟩⟩
  simp only [q4, if_false]
  by_cases q5 : 1 ≤ x4.toInt ∧ x4.toInt ≤ 99
  rotate_left
  · simp only [q5, and_false, false_and, and_true, true_and, and_self, not_true, not_false_iff, if_false, if_true]; exact (zb_Wsome ⟨kr, zb_Wsome ⟨rfl, hj, kr⟩⟩)
  simp only [q5, and_false, false_and, and_true, true_and, and_self, not_true, not_false_iff, if_false, if_true]
  by_cases q6 : x5.toInt < 0
  · rw [if_pos q6]; exact zb_Wsome ⟨kr, zb_Wpos (by omega) (zb_Wsome ⟨rfl, hj, kr⟩)⟩
  rw [if_neg q6]
  by_cases q7 : x5.toInt ≤ 999
  rotate_left
  · rw [if_neg q7]; exact zb_Wsome ⟨kr, zb_Wpos (by omega) (zb_Wsome ⟨rfl, hj, kr⟩)⟩
  rw [if_pos q7]
  have n5 : ¬ ¬ (0 ≤ x5.toInt ∧ x5.toInt ≤ 999) := by omega
  have fM : ∀ v : Int32, v = zb_n W → ((v = (20 : Int32)) = (W = 20)) := fun v hv => by rw [hv, show (20 : Int32) = zb_n 20 from rfl]; exact zb_n_eq (by omega) (by omega)
  by_cases q8 : W < 20
  · refine zb_Wpos (fun z => z q8) ?_
    rw [zb_Wa_add hX.2.2.2.2.2.2.1.1 q8]
    refine zb_Wbind (zb_Wsome (zb_Wsome ?_))
    have f1 : zb_fr [163013, 164, 165, 166, 167, 168] s (zb_put5 163 13 164 W x1 x2 x3 x4 x5 s) := zb_put5_fr rfl (zb_f5 rfl rfl rfl rfl rfl)
    have X1 := zb_MX_W hQ hX f1 (by decide) (by decide) (zb_put5_row (v := fun f => if f = 0 then x1.toInt else if f = 1 then x2.toInt else if f = 2 then x3.toInt else if f = 3 then x4.toInt else x5.toInt) hX.2.2.2.2.2.2.1 (by omega) (zb_i_of _) (zb_i_of _) (zb_i_of _) (zb_i_of _) (zb_i_of _))
    have M1 := zb_MM_fr hM f1 (by decide)
    have O1 := zb_Jo_fx hO (zb_fr_fx f1) (by decide)
    have k1 : zb_keep s (zb_put5 163 13 164 W x1 x2 x3 x4 x5 s) := zb_keep_fr f1 rfl
    refine ⟨k1, ?_⟩
    dsimp only
    have u2 := f1.2
    generalize zb_put5 163 13 164 W x1 x2 x3 x4 x5 s = u at *
    have e63 := M1.2.2.2.2.2.1.1
    refine zb_Wneg n5 (zb_Wneg (by rw [fM _ e63]; omega) ?_)
    rw [zb_Mo_want5 e63 q8]
    have f2 : zb_fr [187063, 230, 231, 232, 233, 234] u (zb_put5 187 63 230 W x1 x2 x3 x4 x5 u) := zb_put5_fr rfl (zb_f5 rfl rfl rfl rfl rfl)
    refine zb_Wsome ⟨rfl, ?_, zb_keep_trans k1 (zb_keep_fr f2 rfl)⟩
    refine zb_J_of (W := W + 1) ⟨⟨hW.1, hW.2.1, hW.2.2.1, hW.2.2.2.1, hW.2.2.2.2.1, by omega, fun w hw => ?_, hW.2.2.2.2.2.2.2⟩, zb_MM_W M1 f2 (by decide) (zb_put5_row M1.2.2.2.2.2.1 (by omega) (zb_i_of _) (zb_i_of _) (zb_i_of _) (zb_i_of _) (zb_i_of _)), zb_MX_fr hQ X1 f2 (by decide) (by decide), zb_Jo_fx O1 (zb_fr_fx f2) (by decide), ?_⟩
    · by_cases e : w = W
      · rw [if_pos e]
        refine ⟨q1, q2, ?_, q3, q5, by show 0 ≤ x5.toInt; omega, by show x5.toInt ≤ 999; omega⟩
        show x1.toInt ≠ x2.toInt
        exact fun z => q4 (Int32.toInt_inj.mp z)
      · rw [if_neg e]; exact hW.2.2.2.2.2.2.1 w (by omega)
    · rw [f2.2, u2]; exact hB
  · refine zb_Wneg (fun z => z q8) (zb_Wsome ⟨kr, ?_⟩)
    refine zb_Wneg n5 (zb_Wpos (by rw [fM _ hM.2.2.2.2.2.1.1]; omega) (zb_Wsome ⟨rfl, hj, kr⟩))
/-- the refusals of a truck -/
def zb_trf (Q td : Nat) (x1 x2 x3 x4 x5 : Int32) : Int32 := if ¬ (0 ≤ x1.toInt ∧ x1.toInt < Q) then (-1 : Int32) else if ¬ (0 ≤ x2.toInt ∧ x2.toInt ≤ 19) then (-1 : Int32) else if ¬ (1 ≤ x3.toInt ∧ x3.toInt ≤ 99) then (-2 : Int32) else if ¬ (0 ≤ x4.toInt ∧ x4.toInt ≤ 99999) then (-2 : Int32) else if ¬ (0 ≤ x5.toInt ∧ x5.toInt ≤ td) then (-2 : Int32) else 0
theorem zb_truckRefusal (hX : zb_MX N A B M O K LO LD LE td Q R T TK W WK Z ZK s) (hQ : Q ≤ 60) (h9 : td ≤ 9999) : F_X_truckRefusal x1 x2 x3 x4 x5 s = some (zb_trf Q td x1 x2 x3 x4 x5) := by
  have z1 : (x4 < (0 : Int32)) = (x4.toInt < 0) := by rw [show (0 : Int32) = zb_n 0 from rfl]; exact zb_c_ltn (by omega)
  have z2 : ((99999 : Int32) < x4) = (99999 < x4.toInt) := by rw [show (99999 : Int32) = zb_n 99999 from rfl]; exact zb_n_ltc (by omega)
  have z3 : (x5 < (0 : Int32)) = (x5.toInt < 0) := by rw [show (0 : Int32) = zb_n 0 from rfl]; exact zb_c_ltn (by omega)
  have z4 : (x5 ≤ zb_n td) = (x5.toInt ≤ td) := zb_c_len (by omega)
  simp only [F_X_truckRefusal, zb_trf, zb_g_rate hX hQ, hX.2.2.2.1, z1, z2, z3, z4, zb_g_owner, zb_g_station, zb_g_good, zb_g_tape, zb_g_day, zb_g_tons, zb_g_stations, zb_g_no1, zb_h_owner, zb_h_station, zb_h_good, zb_h_day, zb_h_tons, zb_h_tape, zb_h_inL, Option.bind_some, zb_bz, Int32.reduceToInt, zb_m1t, zb_m3t]
  by_cases q1 : 0 ≤ x1.toInt ∧ x1.toInt < Q
  rotate_left
  · simp only [q1, not_false_iff, if_true]
  by_cases q2 : 0 ≤ x2.toInt ∧ x2.toInt ≤ 19
  rotate_left
  · simp only [q1, q2, and_self, not_true, not_false_iff, if_true, if_false]
  by_cases q3 : 1 ≤ x3.toInt ∧ x3.toInt ≤ 99
  rotate_left
  · simp only [q1, q2, q3, and_self, not_true, not_false_iff, if_true, if_false]
  simp only [q1, q2, q3, and_self, not_true, not_false_iff, if_true, if_false]
  by_cases q4 : x4.toInt < 0
  · rw [if_pos q4, if_pos (by omega)]
  rw [if_neg q4]
  by_cases q5 : 99999 < x4.toInt
  · rw [if_pos q5, if_pos (by omega)]
  rw [if_neg q5, if_neg (show ¬ ¬ (0 ≤ x4.toInt ∧ x4.toInt ≤ 99999) by omega)]
  by_cases q6 : x5.toInt < 0
  · rw [if_pos q6, if_pos (by omega)]
  rw [if_neg q6]
  by_cases q7 : x5.toInt ≤ td
  · rw [if_pos q7, if_neg (by omega)]
  · rw [if_neg q7, if_pos (by omega)]
theorem zb_trf_0 {x1 x2 x3 x4 x5 : Int32} (h : zb_trf Q td x1 x2 x3 x4 x5 = 0) : (0 ≤ x1.toInt ∧ x1.toInt < Q) ∧ (0 ≤ x2.toInt ∧ x2.toInt ≤ 19) ∧ (1 ≤ x3.toInt ∧ x3.toInt ≤ 99) ∧ (0 ≤ x4.toInt ∧ x4.toInt ≤ 99999) ∧ (0 ≤ x5.toInt ∧ x5.toInt ≤ td) := by
  unfold zb_trf at h
  by_cases q1 : 0 ≤ x1.toInt ∧ x1.toInt < Q
  · by_cases q2 : 0 ≤ x2.toInt ∧ x2.toInt ≤ 19
    · by_cases q3 : 1 ≤ x3.toInt ∧ x3.toInt ≤ 99
      · by_cases q4 : 0 ≤ x4.toInt ∧ x4.toInt ≤ 99999
        · by_cases q5 : 0 ≤ x5.toInt ∧ x5.toInt ≤ td
          · exact ⟨q1, q2, q3, q4, q5⟩
          · simp only [q1, q2, q3, q4, q5, and_self, not_true, not_false_iff, if_true, if_false] at h; exact absurd h (by decide)
        · simp only [q1, q2, q3, q4, and_self, not_true, not_false_iff, if_true, if_false] at h; exact absurd h (by decide)
      · simp only [q1, q2, q3, and_self, not_true, not_false_iff, if_true, if_false] at h; exact absurd h (by decide)
    · simp only [q1, q2, and_self, not_true, not_false_iff, if_true, if_false] at h; exact absurd h (by decide)
  · simp only [q1, not_false_iff, if_true] at h; exact absurd h (by decide)
theorem zb_trf_lt (x1 x2 x3 x4 x5 : Int32) : zb_trf Q td x1 x2 x3 x4 x5 = 0 ∨ zb_trf Q td x1 x2 x3 x4 x5 = -1 ∨ zb_trf Q td x1 x2 x3 x4 x5 = -2 := by
  unfold zb_trf
  split
  · exact Or.inr (Or.inl rfl)
  split
  · exact Or.inr (Or.inl rfl)
  split
  · exact Or.inr (Or.inr rfl)
  split
  · exact Or.inr (Or.inr rfl)
  split
  · exact Or.inr (Or.inr rfl)
  · exact Or.inl rfl
/-- a truck comes: the class's side -/
theorem zb_truck_X (hW : zb_MW N A B M O K LO LD LE td Q R T TK W WK Z ZK) (hX : zb_MX N A B M O K LO LD LE td Q R T TK W WK Z ZK s) (h80 : T < 80) (h0 : zb_trf Q td x1 x2 x3 x4 x5 = 0) : F_Tr_add x1 x2 x3 x4 x5 s = some (zb_n T, zb_put5 151 10 152 T x1 x2 x3 x4 x5 s) ∧ zb_fr [151010, 152, 153, 154, 155, 156] s (zb_put5 151 10 152 T x1 x2 x3 x4 x5 s) ∧ zb_MX N A B M O K LO LD LE td Q R (T + 1) (fun t => if t = T then (fun f => if f = 0 then x1.toInt else if f = 1 then x2.toInt else if f = 2 then x3.toInt else if f = 3 then x4.toInt else x5.toInt) else TK t) W WK Z ZK (zb_put5 151 10 152 T x1 x2 x3 x4 x5 s) ∧ zb_MW N A B M O K LO LD LE td Q R (T + 1) (fun t => if t = T then (fun f => if f = 0 then x1.toInt else if f = 1 then x2.toInt else if f = 2 then x3.toInt else if f = 3 then x4.toInt else x5.toInt) else TK t) W WK Z ZK := by
  have f1 : zb_fr [151010, 152, 153, 154, 155, 156] s (zb_put5 151 10 152 T x1 x2 x3 x4 x5 s) := zb_put5_fr rfl (zb_f5 rfl rfl rfl rfl rfl)
  refine ⟨zb_Tr_add hX.2.2.2.2.2.1.1 h80, f1, zb_MX_T hW.2.1 hX f1 (by decide) (by decide) (zb_put5_row hX.2.2.2.2.2.1 (by omega) (zb_i_of _) (zb_i_of _) (zb_i_of _) (zb_i_of _) (zb_i_of _)), ⟨hW.1, hW.2.1, hW.2.2.1, by omega, fun t ht => ?_, hW.2.2.2.2.2⟩⟩
  dsimp only
  by_cases e : t = T
  · rw [if_pos e]
    obtain ⟨a1, a2, a3, a4, a5⟩ := zb_trf_0 h0
    exact ⟨a1, a2, a3, a4, a5⟩
  · rw [if_neg e]; exact hW.2.2.2.2.1 t (by omega)
/-- and the model's whole call -/
theorem zb_truck_M (hW : zb_MW N A B M O K LO LD LE td Q R T TK W WK Z ZK) (hM : zb_MM N A B M O K LO LD LE td Q R T TK W WK Z ZK s) : zb_W (F_Mo_truck x1 x2 x3 x4 x5 s) (fun r => (¬ zb_trf Q td x1 x2 x3 x4 x5 = 0 → r = (zb_trf Q td x1 x2 x3 x4 x5, s)) ∧ (zb_trf Q td x1 x2 x3 x4 x5 = 0 → ¬ T < 80 → r = ((-4 : Int32), s)) ∧ (zb_trf Q td x1 x2 x3 x4 x5 = 0 → T < 80 → r.1 = zb_n T ∧ zb_fr [187050, 222, 223, 224, 225, 226] s r.2 ∧ zb_MM N A B M O K LO LD LE td Q R (T + 1) (fun t => if t = T then (fun f => if f = 0 then x1.toInt else if f = 1 then x2.toInt else if f = 2 then x3.toInt else if f = 3 then x4.toInt else x5.toInt) else TK t) W WK Z ZK r.2)) := by
  have hQ := hW.2.1
  have hT := hW.2.2.2.1
  have td9 := hW.1
  have tt : (zb_n td).toInt = td := zb_tn (by omega)
  have m1 : ¬ (-1 : Int32) = 0 := by decide
  have m2 : ¬ (-2 : Int32) = 0 := by decide
  simp only [F_Mo_truck, zb_trf, zb_h_rate hM hQ, hM.2.2.1, tt, zb_g_owner, zb_g_station, zb_g_good, zb_g_tape, zb_g_day, zb_g_tons, zb_g_stations, zb_g_no1, zb_h_owner, zb_h_station, zb_h_good, zb_h_day, zb_h_tons, zb_h_tape, zb_h_inL, Option.bind_some, zb_bz, Int32.reduceToInt, zb_m1t, zb_m3t]
  by_cases q1 : 0 ≤ x1.toInt ∧ x1.toInt < Q
  rotate_left
  · simp only [q1, not_false_iff, if_true]; exact zb_Wsome ⟨fun _ => rfl, fun z => absurd z m1, fun z => absurd z m1⟩
  by_cases q2 : 0 ≤ x2.toInt ∧ x2.toInt ≤ 19
  rotate_left
  · simp only [q1, q2, and_self, not_true, not_false_iff, if_true, if_false]; exact zb_Wsome ⟨fun _ => rfl, fun z => absurd z m1, fun z => absurd z m1⟩
  by_cases q3 : 1 ≤ x3.toInt ∧ x3.toInt ≤ 99
  rotate_left
  · simp only [q1, q2, q3, and_self, not_true, not_false_iff, if_true, if_false]; exact zb_Wsome ⟨fun _ => rfl, fun z => absurd z m2, fun z => absurd z m2⟩
  by_cases q4 : 0 ≤ x4.toInt ∧ x4.toInt ≤ 99999
  rotate_left
  · simp only [q1, q2, q3, q4, and_self, not_true, not_false_iff, if_true, if_false]; exact zb_Wsome ⟨fun _ => rfl, fun z => absurd z m2, fun z => absurd z m2⟩
  by_cases q5 : 0 ≤ x5.toInt ∧ x5.toInt ≤ td
  rotate_left
  · simp only [q1, q2, q3, q4, q5, and_self, not_true, not_false_iff, if_true, if_false]; exact zb_Wsome ⟨fun _ => rfl, fun z => absurd z m2, fun z => absurd z m2⟩
  simp only [q1, q2, q3, q4, q5, and_self, not_true, if_false]
  have e50 := hM.2.2.2.2.1.1
  by_cases q6 : T < 80
  · refine zb_Wneg (by rw [e50, show (80 : Int32) = zb_n 80 from rfl, zb_n_eq (by omega) (by omega)]; omega) ?_
    rw [zb_Mo_truck5 e50 q6]
    have f2 : zb_fr [187050, 222, 223, 224, 225, 226] s (zb_put5 187 50 222 T x1 x2 x3 x4 x5 s) := zb_put5_fr rfl (zb_f5 rfl rfl rfl rfl rfl)
    exact zb_Wsome ⟨fun z => z.elim, fun _ z => absurd q6 z, fun _ _ => ⟨rfl, f2, zb_MM_T hM f2 (by decide) (zb_put5_row hM.2.2.2.2.1 (by omega) (zb_i_of _) (zb_i_of _) (zb_i_of _) (zb_i_of _) (zb_i_of _))⟩⟩
  · refine zb_Wpos (by rw [e50, show T = 80 by omega]; rfl) (zb_Wsome ⟨fun z => z.elim, fun _ _ => rfl, fun _ z => absurd z q6⟩)
theorem zb_c_truck (h : zb_J s) : zb_m11 (F_X_truck x1 x2 x3 x4 x5 s) (F_Mo_truck x1 x2 x3 x4 x5) s := by
  obtain ⟨N, A, B, M, O, K, LO, LD, LE, td, Q, R, T, TK, W, WK, Z, ZK, h⟩ := h
  have hj := zb_J_of h
  have kr := zb_keep_refl s
  obtain ⟨hW, hM, hX, hO, hB⟩ := h
  have hQ := hW.2.1
  have hT := hW.2.2.2.1
  unfold zb_m11 F_X_truck
  rw [zb_truckRefusal hX hQ hW.1]
  refine zb_Wbind (zb_Wsome ?_)
  by_cases q : zb_trf Q td x1 x2 x3 x4 x5 = 0
  · refine zb_Wpos q ?_
    unfold F_Tr_areFull
    rw [hX.2.2.2.2.2.1.1]
    by_cases q2 : T < 80
    · rw [if_pos (by rw [show (80 : Int32) = zb_n 80 from rfl, zb_n_lt (by omega) (by omega)]; exact q2)]
      obtain ⟨t1, t2, t3, t4⟩ := zb_truck_X hW hX q2 q
      refine zb_Wbind (zb_Wsome (zb_Wpos rfl ?_))
      rw [t1]
      refine zb_Wbind (zb_Wsome (zb_Wsome ⟨zb_keep_fr t2 rfl, ?_⟩))
      dsimp only
      have M1 := zb_MM_fr hM t2 (by decide)
      have O1 := zb_Jo_fx hO (zb_fr_fx t2) (by decide)
      refine zb_Wmono (zb_truck_M hW M1) (fun r hr => ?_)
      obtain ⟨r1, r2, r3⟩ := hr.2.2 q q2
      refine ⟨r1, zb_J_of ⟨t4, r3, zb_MX_fr hQ t3 r2 (by decide) (by decide), zb_Jo_fx O1 (zb_fr_fx r2) (by decide), ?_⟩, zb_keep_trans (zb_keep_fr t2 rfl) (zb_keep_fr r2 rfl)⟩
      rw [r2.2, t2.2]; exact hB
    · rw [if_neg (by rw [show (80 : Int32) = zb_n 80 from rfl, zb_n_lt (by omega) (by omega)]; exact q2)]
      refine zb_Wbind (zb_Wsome (zb_Wneg (by decide) (zb_Wsome ⟨kr, ?_⟩)))
      refine zb_Wmono (zb_truck_M hW hM) (fun r hr => ?_)
      rw [hr.2.1 q q2]
      exact ⟨rfl, hj, kr⟩
  · refine zb_Wneg q (zb_Wsome ⟨kr, ?_⟩)
    refine zb_Wmono (zb_truck_M hW hM) (fun r hr => ?_)
    rw [hr.1 q]
    exact ⟨rfl, hj, kr⟩
end MK2
