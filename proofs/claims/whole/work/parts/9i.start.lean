/-! the first picture keeps what both hold -/
def zb_zA (z : sv_H) : Bool := [(187, 1), (187, 10), (187, 0), (187, 32), (187, 50), (187, 63), (187, 69), (65, 4), (81, 4), (64, 9), (88, 4), (151, 10), (163, 13), (163, 14), (77, 3), (187, 11), (175, 1), (187, 73)].all (fun p => decide (z.1 p.1 p.2 = (0 : Int32)))
def zb_zB (z : sv_H) : Bool := [((81, 3), (-1 : Int)), ((85, 0), -1), ((85, 1), -1), ((85, 2), -1), ((187, 51), -1), ((64, 10), -3)].all (fun p => decide (z.1 p.1.1 p.1.2 = zb_i p.2))
def zb_zC (z : sv_H) : Bool := (List.range 40).all (fun i => decide (z.1 84 i = zb_i (-1))) && (List.range 60).all (fun i => decide (z.1 (91 + i) 11 = (0 : Int32))) && (List.range 6).all (fun i => decide (z.1 178 i = zb_i (-1) ∧ z.1 239 i = zb_i (-1) ∧ z.1 179 i = (0 : Int32) ∧ z.1 240 i = (0 : Int32)))
def zb_zD (z : sv_H) : Bool := (List.range 256).all (fun i => decide (z.1 68 i = zb_i (-1)))
def zb_zE (z : sv_H) (t : Nat) : Bool := (List.range 16).all (fun x => (List.range 16).all (fun y => decide (z.1 (70 + t) (16 * x + y) = zb_i (if x = y then 0 else 1000000))))
def zb_zF (z : sv_H) : Bool := (List.range 6).all (fun t => (List.range 80).all (fun i => decide (z.2.1 (181 + t) i = z.2.1 241 (80 * t + i))))
theorem zb_zA4 : zb_zA sk4 = true := by decide +kernel
theorem zb_zB4 : zb_zB sk4 = true := by decide +kernel
theorem zb_zC4 : zb_zC sk4 = true := by decide +kernel
theorem zb_zF4 : zb_zF sk4 = true := by decide +kernel
theorem zb_zD4 : zb_zD sk4 = true := by decide +kernel
theorem zb_zE40 : zb_zE sk4 0 = true := by decide +kernel
theorem zb_zE41 : zb_zE sk4 1 = true := by decide +kernel
theorem zb_zE42 : zb_zE sk4 2 = true := by decide +kernel
theorem zb_zE43 : zb_zE sk4 3 = true := by decide +kernel
theorem zb_zE44 : zb_zE sk4 4 = true := by decide +kernel
theorem zb_zE45 : zb_zE sk4 5 = true := by decide +kernel
theorem zb_zE46 : zb_zE sk4 6 = true := by decide +kernel
theorem zb_zE4 : ∀ t, t < 7 → zb_zE sk4 t = true := by
  intro t ht
  have : t = 0 ∨ t = 1 ∨ t = 2 ∨ t = 3 ∨ t = 4 ∨ t = 5 ∨ t = 6 := by omega
  rcases this with rfl | rfl | rfl | rfl | rfl | rfl | rfl
  · exact zb_zE40
  · exact zb_zE41
  · exact zb_zE42
  · exact zb_zE43
  · exact zb_zE44
  · exact zb_zE45
  · exact zb_zE46
/-- what lies there before -/
def zb_Fz (f : Nat → Nat → Int32) : Prop := (∀ i, i < 11 → f (3 + i) 1 = 0 ∧ ∀ j, j < (zb_ws.getD i []).length → f (14 + i) j = zb_n ((zb_ws.getD i []).getD j 0)) ∧ (∀ k, k < 7 → f 1 k = zb_i (zb_aL.getD k 0)) ∧ ∀ k, k < 21 → f 2 k = zb_n (zb_bL.getD k 0)
theorem zb_startG {f : Nat → Nat → Int32} {n : Nat} {z : sv_H} (hf : zb_Fz f) (hA : zb_zA z = true) (hB : zb_zB z = true) (hC : zb_zC z = true) (hD : zb_zD z = true) (hE : ∀ t, t < 7 → zb_zE z t = true) (hF : zb_zF z = true) : zb_J (sk_mix f n z) := by
  have lo : ∀ c k, c < 64 → (sk_mix f n z).1 c k = f c k := fun c k h => if_pos h
  have hi : ∀ c k, ¬ c < 64 → (sk_mix f n z).1 c k = z.1 c k := fun c k h => if_neg h
  have hl : ∀ c k, ¬ c < 64 → (sk_mix f n z).2.1 c k = z.2.1 c k := fun c k h => if_neg h
  unfold zb_zA at hA
  unfold zb_zB at hB
  unfold zb_zC at hC
  rw [Bool.and_eq_true, Bool.and_eq_true] at hC
  obtain ⟨⟨hC1, hC2⟩, hC3⟩ := hC
  have gA : ∀ c k, ¬ c < 64 → (c, k) ∈ [(187, 1), (187, 10), (187, 0), (187, 32), (187, 50), (187, 63), (187, 69), (65, 4), (81, 4), (64, 9), (88, 4), (151, 10), (163, 13), (163, 14), (77, 3), (187, 11), (175, 1), (187, 73)] → (sk_mix f n z).1 c k = zb_n 0 := fun c k h hm => by
    rw [hi c k h]; exact of_decide_eq_true (List.all_eq_true.mp hA (c, k) hm)
  have gB : ∀ c k (v : Int), ¬ c < 64 → ((c, k), v) ∈ [((81, 3), (-1 : Int)), ((85, 0), -1), ((85, 1), -1), ((85, 2), -1), ((187, 51), -1), ((64, 10), -3)] → (sk_mix f n z).1 c k = zb_i v := fun c k v h hm => by
    rw [hi c k h]; exact of_decide_eq_true (List.all_eq_true.mp hB ((c, k), v) hm)
  have g84 : ∀ i, i < 40 → (sk_mix f n z).1 84 i = zb_i (-1) := fun i h => by
    rw [hi 84 i (by omega)]; exact of_decide_eq_true (List.all_eq_true.mp hC1 i (List.mem_range.mpr h))
  have g91 : ∀ i, i < 60 → (sk_mix f n z).1 (91 + i) 11 = zb_n 0 := fun i h => by
    rw [hi (91 + i) 11 (by omega)]; exact of_decide_eq_true (List.all_eq_true.mp hC2 i (List.mem_range.mpr h))
  have g68 : ∀ i, i < 256 → (sk_mix f n z).1 68 i = zb_i (-1) := fun i h => by
    unfold zb_zD at hD
    rw [hi 68 i (by omega)]; exact of_decide_eq_true (List.all_eq_true.mp hD i (List.mem_range.mpr h))
  have g70 : ∀ t x y, t < 7 → x < 16 → y < 16 → (sk_mix f n z).1 (70 + t) (16 * x + y) = zb_i (if x = y then 0 else 1000000) := fun t x y ht hx hy => by
    have e := hE t ht
    unfold zb_zE at e
    rw [hi (70 + t) _ (by omega)]
    exact of_decide_eq_true (List.all_eq_true.mp (List.all_eq_true.mp e x (List.mem_range.mpr hx)) y (List.mem_range.mpr hy))
  have e1 : (sk_mix f n z).2.2.2.2.1 = 0 := rfl
  have e2 : (sk_mix f n z).2.2.2.2.2 = 0 := rfl
  have gF : ∀ t i, t < 6 → i < 80 → (sk_mix f n z).2.1 (181 + t) i = (sk_mix f n z).2.1 241 (80 * t + i) := fun t i ht h => by
    unfold zb_zF at hF
    rw [hl (181 + t) i (by omega), hl 241 _ (by omega)]
    exact of_decide_eq_true (List.all_eq_true.mp (List.all_eq_true.mp hF t (List.mem_range.mpr ht)) i (List.mem_range.mpr h))
  have gP : ∀ t, t < 6 → (sk_mix f n z).1 178 t = zb_i (-1) ∧ (sk_mix f n z).1 239 t = zb_i (-1) ∧ (sk_mix f n z).1 179 t = zb_n 0 ∧ (sk_mix f n z).1 240 t = zb_n 0 := fun t h => by
    rw [hi 178 t (by omega), hi 239 t (by omega), hi 179 t (by omega), hi 240 t (by omega)]
    exact of_decide_eq_true (List.all_eq_true.mp hC3 t (List.mem_range.mpr h))
  have gS : zb_SS (sk_mix f n z) := fun i hi2 => by
    rw [lo (3 + i) 1 (by omega)]
    refine ⟨(hf.1 i hi2).1, fun j hj => ?_⟩
    rw [lo (14 + i) j (by omega)]
    exact (hf.1 i hi2).2 j hj
  have gJ : zb_JB (sk_mix f n z) := ⟨fun k hk => by rw [lo 1 k (by omega)]; exact hf.2.1 k hk, fun k hk => by rw [lo 2 k (by omega)]; exact hf.2.2 k hk⟩
  generalize sk_mix f n z = s at *
  refine ⟨0, fun _ => 0, fun _ => 0, fun _ => 0, fun _ => 0, 0, fun _ => 0, fun _ => 0, fun _ => [], 0, 0, fun _ _ => 0, 0, fun _ _ => 0, 0, fun _ _ => 0, 0, fun _ => 0, ?_, ?_, ?_, ?_, ?_⟩
  · refine ⟨by omega, by omega, fun r h => absurd h (by omega), by omega, fun r h => absurd h (by omega), by omega, fun r h => absurd h (by omega), by omega, fun r h => absurd h (by omega), fun r y h => absurd h (by omega)⟩
  · refine ⟨⟨by omega, gA 187 1 (by omega) (by decide), fun l h => absurd h (by omega)⟩, ⟨by omega, gA 187 10 (by omega) (by decide), fun l h => absurd h (by omega)⟩, gA 187 0 (by omega) (by decide), ⟨gA 187 32 (by omega) (by decide), fun l h => absurd h (by omega)⟩, ⟨gA 187 50 (by omega) (by decide), fun l h => absurd h (by omega)⟩, ⟨gA 187 63 (by omega) (by decide), fun l h => absurd h (by omega)⟩, ⟨gA 187 69 (by omega) (by decide), fun l h => absurd h (by omega)⟩⟩
  · refine ⟨⟨gA 65 4 (by omega) (by decide), fun l h => absurd h (by omega), fun a b ha hb => g68 _ (by omega), fun o ho => ⟨fun a b => if a = b then 0 else 1000000, fun x y hx hy => g70 o x y ho hx hy, zb_gr_zero (by omega)⟩⟩, ⟨⟨by omega, gA 81 4 (by omega) (by decide), e1, ⟨gB 85 0 _ (by omega) (by decide), gB 85 1 _ (by omega) (by decide), gB 85 2 _ (by omega) (by decide), g84⟩, fun k h => absurd h (by omega)⟩, -1, gB 81 3 _ (by omega) (by decide), by omega, by omega, fun h => absurd h (by omega)⟩, gS, gA 64 9 (by omega) (by decide), ⟨gA 88 4 (by omega) (by decide), fun l h => absurd h (by omega), fun r _ h => g91 r h⟩, ⟨gA 151 10 (by omega) (by decide), fun l h => absurd h (by omega)⟩, ⟨gA 163 13 (by omega) (by decide), fun l h => absurd h (by omega)⟩, ⟨gA 163 14 (by omega) (by decide), fun l h => absurd h (by omega)⟩⟩
  · refine ⟨⟨0, by omega, gA 77 3 (by omega) (by decide), gA 187 11 (by omega) (by decide), fun i h => absurd h (by omega)⟩, ⟨0, by omega, gA 175 1 (by omega) (by decide), gA 187 73 (by omega) (by decide), fun i h => absurd h (by omega)⟩, fun t ht => ?_, ⟨-1, by omega, by omega, gB 187 51 _ (by omega) (by decide), ?_⟩, gJ⟩
    · obtain ⟨p1, p2, p3, p4⟩ := gP t ht
      exact ⟨-1, 0, by omega, by omega, by omega, fun _ => rfl, p1, p2, p3, p4, fun i hi2 => gF t i ht hi2⟩
    · rw [if_pos (by omega)]; exact gB 64 10 _ (by omega) (by decide)
  · rw [e2]; omega
theorem zb_start {f : Nat → Nat → Int32} {n : Nat} (hf : zb_Fz f) : zb_J (sk_s f n) := zb_startG hf zb_zA4 zb_zB4 zb_zC4 zb_zD4 zb_zE4 zb_zF4
/-- what the law answers, and what it leaves -/
theorem zb_law {f : Nat → Nat → Int32} {n : Nat} (hf : zb_Fz f) (hn : n ≤ 4096) : ∃ s, F_La_law (sk_s f n) = some ((1 : Int32), s) ∧ s.2.2.2.2.1 ≤ 64 ∧ s.2.2.2.2.2 ≤ 6400 := by
  obtain ⟨q, e, q1, q2⟩ := zb_loop (zb_start (n := n) hf) (show (sk_s f n).2.2.2.1 0 = n from rfl) hn
  obtain ⟨N, A, B, M, O, K, LO, LD, LE, td, Q, R, T, TK, W, WK, Z, ZK, h⟩ := q2
  have k16 := h.2.2.1.2.1.1.1
  have ce := h.2.2.1.2.1.1.2.2.1
  have sl := h.2.2.2.2
  refine ⟨q.2, ?_, by omega, by omega⟩
  rw [e, ← q1]
