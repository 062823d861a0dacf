/-! the whole invariant, and calls that only ask -/
def sb_JT (s : sv_S) : Prop := ∃ n, n ≤ 140 ∧ s.1 77 3 = sb_n n ∧ s.1 187 11 = sb_n n ∧ ∀ i, i < n → s.1 78 i = s.1 197 (2240 + i)
def sb_JA (s : sv_S) : Prop := ∃ n, n ≤ 1000 ∧ s.1 175 1 = sb_n n ∧ s.1 187 73 = sb_n n ∧ ∀ i, i < n → i < 20 → s.1 176 i = s.1 238 i
def sb_JP (s : sv_S) : Prop := ∀ t, t < 6 → ∃ (o : Int) (n : Nat), -1 ≤ o ∧ o ≤ 3 ∧ n ≤ 80 ∧ (o = -1 → n = 0) ∧ s.1 178 t = sb_i o ∧ s.1 239 t = sb_i o ∧ s.1 179 t = sb_n n ∧ s.1 240 t = sb_n n ∧ ∀ i, i < 80 → s.2.1 (181 + t) i = s.2.1 241 (80 * t + i)
def sb_JE (s : sv_S) : Prop := ∃ e : Int, -1 ≤ e ∧ e ≤ 3 ∧ s.1 187 51 = sb_i e ∧ s.1 64 10 = sb_i (if e < 0 then -3 else e)
/-- the class's constants: which kind is above, and bodies -/
def sb_aL : List Int := [-1, 0, 0, 0, 1, 0, 0]
def sb_bL : List Nat := [10, 11, 12, 0, 20, 0, 30, 0, 0, 40, 0, 0, 0, 51, 50, 0, 0, 60, 70, 0, 71]
def sb_JB (s : sv_S) : Prop := (∀ k, k < 7 → s.1 1 k = sb_i (sb_aL.getD k 0)) ∧ ∀ k, k < 21 → s.1 2 k = sb_n (sb_bL.getD k 0)
/-- regions of these -/
def sb_PO1 : List Nat := [77003, 78, 187011, 197, 175001, 176, 187073, 238, 178, 179, 239, 240, 187051, 64010, 0, 1, 2]
def sb_Jo (s : sv_S) : Prop := sb_JT s ∧ sb_JA s ∧ sb_JP s ∧ sb_JE s ∧ sb_JB s
def sb_keep (s u : sv_S) : Prop := (∀ k, u.1 0 k = s.1 0 k) ∧ u.2.2.2.1 0 = s.2.2.2.1 0
def sb_J1 (N : Nat) (A B : Nat → Nat) (M : Nat → Int) (O : Nat → Nat) (K : Nat) (LO LD : Nat → Int) (LE : Nat → List sb_EF) (td Q : Nat) (R : Nat → Nat → Int) (T : Nat) (TK : Nat → Nat → Int) (W : Nat) (WK : Nat → Nat → Int) (Z : Nat) (ZK : Nat → Nat) (s : sv_S) : Prop := sb_MW N A B M O K LO LD LE td Q R T TK W WK Z ZK ∧ sb_MM N A B M O K LO LD LE td Q R T TK W WK Z ZK s ∧ sb_MX N A B M O K LO LD LE td Q R T TK W WK Z ZK s ∧ sb_Jo s ∧ s.2.2.2.2.2 ≤ 400 * K
def sb_J (s : sv_S) : Prop := ∃ N A B M O K LO LD LE td Q R T TK W WK Z ZK, sb_J1 N A B M O K LO LD LE td Q R T TK W WK Z ZK s
section JQ
variable {N K td Q T W Z : Nat} {A B O ZK : Nat → Nat} {M LO LD : Nat → Int} {LE : Nat → List sb_EF} {R TK WK : Nat → Nat → Int} {s : sv_S}
theorem sb_Jo_fx {L : List Nat} {u : sv_S} (h : sb_Jo s) (hf : sb_fx L s u) (hL : sb_PO1.all (fun x => !L.contains x) = true) : sb_Jo u := by
  obtain ⟨⟨n, t1, t2, t3, t4⟩, ⟨m, a1, a2, a3, a4⟩, hP, ⟨e, e1, e2, e3, e4⟩, hB⟩ := h
  have g := fun x (hx : x ∈ sb_PO1) => sb_no_in hL hx
  refine ⟨⟨n, t1, (hf.1 77 3 (g 77003 (by decide))).trans t2, (hf.1 187 11 (g 187011 (by decide))).trans t3, fun i hi => ?_⟩, ⟨m, a1, (hf.1 175 1 (g 175001 (by decide))).trans a2, (hf.1 187 73 (g 187073 (by decide))).trans a3, fun i hi h2 => ?_⟩, fun t ht => ?_, ⟨e, e1, e2, (hf.1 187 51 (g 187051 (by decide))).trans e3, (hf.1 64 10 (g 64010 (by decide))).trans e4⟩, ⟨fun k hk => (hf.1 1 k (g 1 (by decide))).trans (hB.1 k hk), fun k hk => (hf.1 2 k (g 2 (by decide))).trans (hB.2 k hk)⟩⟩
  · rw [hf.1 78 i (g 78 (by decide)), hf.1 197 _ (g 197 (by decide))]; exact t4 i hi
  · rw [hf.1 176 i (g 176 (by decide)), hf.1 238 i (g 238 (by decide))]; exact a4 i hi h2
  · obtain ⟨o, n, p1, p2, p3, p4, p5, p6, p7, p8, p9⟩ := hP t ht
    refine ⟨o, n, p1, p2, p3, p4, (hf.1 178 t (g 178 (by decide))).trans p5, (hf.1 239 t (g 239 (by decide))).trans p6, (hf.1 179 t (g 179 (by decide))).trans p7, (hf.1 240 t (g 240 (by decide))).trans p8, fun i hi => ?_⟩
    rw [hf.2.1]; exact p9 i hi
theorem sb_keep_fx {L : List Nat} {u : sv_S} (hf : sb_fx L s u) (hL : L.contains 0 = false) : sb_keep s u := ⟨fun k => hf.1 0 k hL, by rw [hf.2.2.2]⟩
theorem sb_keep_fr {L : List Nat} {u : sv_S} (hf : sb_fr L s u) (hL : L.contains 0 = false) : sb_keep s u := sb_keep_fx (sb_fr_fx hf) hL
theorem sb_keep_trans {u v : sv_S} (h1 : sb_keep s u) (h2 : sb_keep u v) : sb_keep s v := ⟨fun k => (h2.1 k).trans (h1.1 k), h2.2.trans h1.2⟩
/-- the class asked: its cells as before, but for scratch -/
theorem sb_J_X {L : List Nat} {u : sv_S} (h : sb_J1 N A B M O K LO LD LE td Q R T TK W WK Z ZK s) (hX : sb_MX N A B M O K LO LD LE td Q R T TK W WK Z ZK u) (hf : sb_fx L s u) (hL : (sb_PM ++ sb_PO1).all (fun x => !L.contains x) = true) : sb_J1 N A B M O K LO LD LE td Q R T TK W WK Z ZK u := by
  have h1 : sb_PM.all (fun x => !L.contains x) = true := sb_all_sub hL (by decide)
  have h2 : sb_PO1.all (fun x => !L.contains x) = true := sb_all_sub hL (by decide)
  exact ⟨h.1, sb_MM_fx h.2.1 hf h1, hX, sb_Jo_fx h.2.2.2.1 hf h2, by rw [hf.2.2.2]; exact h.2.2.2.2⟩
/-- the model asked -/
theorem sb_J_M {L : List Nat} {u : sv_S} (h : sb_J1 N A B M O K LO LD LE td Q R T TK W WK Z ZK s) (hf : sb_fr L s u) (hL : (sb_PM ++ sb_PX ++ sb_PO1).all (fun x => !L.contains x) = true) (h25 : L.all (fun x => decide (25 ≤ x)) = true) : sb_J1 N A B M O K LO LD LE td Q R T TK W WK Z ZK u := by
  have h1 : sb_PM.all (fun x => !L.contains x) = true := sb_all_sub hL (by decide)
  have h2 : sb_PX.all (fun x => !L.contains x) = true := sb_all_sub hL (by decide)
  have h3 : sb_PO1.all (fun x => !L.contains x) = true := sb_all_sub hL (by decide)
  exact ⟨h.1, sb_MM_fr h.2.1 hf h1, sb_MX_fr h.1.2.1 h.2.2.1 hf h2 h25, sb_Jo_fx h.2.2.2.1 (sb_fr_fx hf) h3, by rw [hf.2]; exact h.2.2.2.2⟩
theorem sb_J_of (h : sb_J1 N A B M O K LO LD LE td Q R T TK W WK Z ZK s) : sb_J s := ⟨N, A, B, M, O, K, LO, LD, LE, td, Q, R, T, TK, W, WK, Z, ZK, h⟩
end JQ
/-- one call of both: forms by what they answer -/
def sb_m11 {α : Type} (x : Option (α × sv_S)) (m : sv_S → Option (α × sv_S)) (s : sv_S) : Prop := sb_W x (fun r => sb_keep s r.2 ∧ sb_W (m r.2) (fun q => q.1 = r.1 ∧ sb_J q.2 ∧ sb_keep s q.2))
def sb_m01 {α : Type} (x : Option α) (m : sv_S → Option (α × sv_S)) (s : sv_S) : Prop := sb_W x (fun r => sb_W (m s) (fun q => q.1 = r ∧ sb_J q.2 ∧ sb_keep s q.2))
def sb_m10 {α : Type} (x : Option (α × sv_S)) (m : sv_S → Option α) (s : sv_S) : Prop := sb_W x (fun r => sb_keep s r.2 ∧ sb_W (m r.2) (fun q => q = r.1 ∧ sb_J r.2))
def sb_m00 {α : Type} (x : Option α) (m : sv_S → Option α) (s : sv_S) : Prop := sb_W x (fun r => sb_W (m s) (fun q => q = r))
theorem sb_keep_refl (s : sv_S) : sb_keep s s := ⟨fun _ => rfl, rfl⟩
section GRD
variable {s : sv_S} {x y : Int32}
/-- looks of the class at its arguments -/
theorem sb_g_owner : F_X_isOwner x s = some (sb_b (decide (0 ≤ x.toInt ∧ x.toInt ≤ 5))) := by
  unfold F_X_isOwner
  rw [show (0 : Int32) = sb_n 0 from rfl, show (6 : Int32) = sb_n 6 from rfl, show (1 : Int32) = sb_n 1 from rfl]
  by_cases q : x.toInt < 0
  · rw [if_pos (by rw [sb_c_ltn (by omega)]; omega), decide_eq_false (by omega)]; rfl
  · rw [if_neg (by rw [sb_c_ltn (by omega)]; omega)]
    by_cases q2 : 6 ≤ x.toInt
    · rw [if_pos (by rw [sb_n_lec (by omega)]; omega), decide_eq_false (by omega)]; rfl
    · rw [if_neg (by rw [sb_n_lec (by omega)]; omega), decide_eq_true (by omega)]; rfl
theorem sb_g_station : F_X_isStation x s = some (sb_b (decide (0 ≤ x.toInt ∧ x.toInt ≤ 15))) := by
  unfold F_X_isStation
  rw [show (0 : Int32) = sb_n 0 from rfl, show (16 : Int32) = sb_n 16 from rfl, show (1 : Int32) = sb_n 1 from rfl]
  by_cases q : x.toInt < 0
  · rw [if_pos (by rw [sb_c_ltn (by omega)]; omega), decide_eq_false (by omega)]; rfl
  · rw [if_neg (by rw [sb_c_ltn (by omega)]; omega)]
    by_cases q2 : 16 ≤ x.toInt
    · rw [if_pos (by rw [sb_n_lec (by omega)]; omega), decide_eq_false (by omega)]; rfl
    · rw [if_neg (by rw [sb_n_lec (by omega)]; omega), decide_eq_true (by omega)]; rfl
theorem sb_g_good : F_X_isGood x s = some (sb_b (decide (0 ≤ x.toInt ∧ x.toInt ≤ 19))) := by
  unfold F_X_isGood
  rw [show (0 : Int32) = sb_n 0 from rfl, show (20 : Int32) = sb_n 20 from rfl, show (1 : Int32) = sb_n 1 from rfl]
  by_cases q : x.toInt < 0
  · rw [if_pos (by rw [sb_c_ltn (by omega)]; omega), decide_eq_false (by omega)]; rfl
  · rw [if_neg (by rw [sb_c_ltn (by omega)]; omega)]
    by_cases q2 : 20 ≤ x.toInt
    · rw [if_pos (by rw [sb_n_lec (by omega)]; omega), decide_eq_false (by omega)]; rfl
    · rw [if_neg (by rw [sb_n_lec (by omega)]; omega), decide_eq_true (by omega)]; rfl
theorem sb_g_tape : F_X_isTape x s = some (sb_b (decide (0 ≤ x.toInt ∧ x.toInt ≤ 5))) := by
  unfold F_X_isTape
  rw [show (0 : Int32) = sb_n 0 from rfl, show (6 : Int32) = sb_n 6 from rfl, show (1 : Int32) = sb_n 1 from rfl]
  by_cases q : x.toInt < 0
  · rw [if_pos (by rw [sb_c_ltn (by omega)]; omega), decide_eq_false (by omega)]; rfl
  · rw [if_neg (by rw [sb_c_ltn (by omega)]; omega)]
    by_cases q2 : 6 ≤ x.toInt
    · rw [if_pos (by rw [sb_n_lec (by omega)]; omega), decide_eq_false (by omega)]; rfl
    · rw [if_neg (by rw [sb_n_lec (by omega)]; omega), decide_eq_true (by omega)]; rfl
theorem sb_g_day : F_X_isDay x s = some (sb_b (decide (0 ≤ x.toInt ∧ x.toInt ≤ 9999))) := by
  unfold F_X_isDay
  rw [show (0 : Int32) = sb_n 0 from rfl, show (9999 : Int32) = sb_n 9999 from rfl, show (1 : Int32) = sb_n 1 from rfl]
  by_cases q : x.toInt < 0
  · rw [if_pos (by rw [sb_c_ltn (by omega)]; omega), decide_eq_false (by omega)]; rfl
  · rw [if_neg (by rw [sb_c_ltn (by omega)]; omega)]
    by_cases q2 : 9999 < x.toInt
    · rw [if_pos (by rw [sb_n_ltc (by omega)]; omega), decide_eq_false (by omega)]; rfl
    · rw [if_neg (by rw [sb_n_ltc (by omega)]; omega), decide_eq_true (by omega)]; rfl
theorem sb_g_tons : F_X_areTons x s = some (sb_b (decide (1 ≤ x.toInt ∧ x.toInt ≤ 99))) := by
  unfold F_X_areTons
  rw [show (0 : Int32) = sb_n 0 from rfl, show (99 : Int32) = sb_n 99 from rfl, show (1 : Int32) = sb_n 1 from rfl]
  by_cases q : x.toInt < 1
  · rw [if_pos (by rw [sb_c_ltn (by omega)]; omega), decide_eq_false (by omega)]; rfl
  · rw [if_neg (by rw [sb_c_ltn (by omega)]; omega)]
    by_cases q2 : 99 < x.toInt
    · rw [if_pos (by rw [sb_n_ltc (by omega)]; omega), decide_eq_false (by omega)]; rfl
    · rw [if_neg (by rw [sb_n_ltc (by omega)]; omega), decide_eq_true (by omega)]; rfl
theorem sb_g_stations : F_X_areStations x y s = some (sb_b (decide ((0 ≤ x.toInt ∧ x.toInt ≤ 15) ∧ (0 ≤ y.toInt ∧ y.toInt ≤ 15)))) := by
  unfold F_X_areStations
  rw [sb_g_station, Option.bind_some, sb_g_station, show (0 : Int32) = sb_n 0 from rfl, show (1 : Int32) = sb_n 1 from rfl]
  simp only [sb_b0, Option.bind_some]
  by_cases q : 0 ≤ x.toInt ∧ x.toInt ≤ 15
  · rw [decide_eq_true q, if_neg (by decide)]
    by_cases q2 : 0 ≤ y.toInt ∧ y.toInt ≤ 15
    · rw [decide_eq_true q2, if_neg (by decide), decide_eq_true ⟨q, q2⟩]; rfl
    · rw [decide_eq_false q2, if_pos rfl, decide_eq_false (fun z => q2 z.2)]; rfl
  · rw [decide_eq_false q, if_pos rfl, decide_eq_false (fun z => q z.1)]; rfl
theorem sb_g_no1 : F_X_isOwnerOrNoOne x s = some (sb_b (decide (-1 ≤ x.toInt ∧ x.toInt ≤ 5))) := by
  unfold F_X_isOwnerOrNoOne
  rw [sb_g_owner, sb_m1, show (0 : Int32) = sb_n 0 from rfl, show (1 : Int32) = sb_n 1 from rfl]
  simp only [sb_b0, Option.bind_some]
  have e : (x = sb_i (-1)) = (x.toInt = -1) := by rw [← Int32.toInt_inj, sb_ti (by omega) (by omega)]
  by_cases q : x.toInt = -1
  · rw [if_pos (by rw [e]; exact q), decide_eq_true (by omega)]; rfl
  · rw [if_neg (by rw [e]; exact q)]
    by_cases q2 : 0 ≤ x.toInt ∧ x.toInt ≤ 5
    · rw [decide_eq_true q2, if_neg (by decide), decide_eq_true (by omega)]; rfl
    · rw [decide_eq_false q2, if_pos rfl, decide_eq_false (by omega)]; rfl
/-- looks of the model -/
theorem sb_h_in {lo hi : Int32} {a b : Int} (h1 : lo.toInt = a) (h2 : hi.toInt = b) : F_Mo_in x lo hi s = some (sb_b (decide (a ≤ x.toInt ∧ x.toInt ≤ b))) := by
  rw [sb_Mo_in]
  congr 2
  refine decide_eq_decide.mpr ?_
  rw [Int32.lt_iff_toInt_lt, Int32.lt_iff_toInt_lt, h1, h2]; omega
theorem sb_h_bl {b : Bool} {o : Option Int32} (h : o = some (sb_b b)) : (o.bind fun r1 => if sv_bl r1 = true then some r1 else none) = some (sb_b b) := by rw [h, Option.bind_some, if_pos sb_bl_b]
theorem sb_h_owner : F_Mo_isOwner x s = some (sb_b (decide (0 ≤ x.toInt ∧ x.toInt ≤ 5))) := sb_h_bl (sb_h_in rfl rfl)
theorem sb_h_station : F_Mo_isStation x s = some (sb_b (decide (0 ≤ x.toInt ∧ x.toInt ≤ 15))) := sb_h_bl (sb_h_in rfl rfl)
theorem sb_h_good : F_Mo_isGood x s = some (sb_b (decide (0 ≤ x.toInt ∧ x.toInt ≤ 19))) := sb_h_bl (sb_h_in rfl rfl)
theorem sb_h_day : F_Mo_isDay x s = some (sb_b (decide (0 ≤ x.toInt ∧ x.toInt ≤ 9999))) := sb_h_bl (sb_h_in rfl rfl)
theorem sb_h_tons : F_Mo_isTons x s = some (sb_b (decide (1 ≤ x.toInt ∧ x.toInt ≤ 99))) := sb_h_bl (sb_h_in rfl rfl)
theorem sb_h_tape : F_Mo_isTape x s = some (sb_b (decide (0 ≤ x.toInt ∧ x.toInt ≤ 5))) := sb_h_bl (sb_h_in rfl rfl)
theorem sb_bT {p : Prop} [Decidable p] (h : p) : ¬ sb_b (decide p) = (0 : Int32) := by rw [decide_eq_true h]; decide
theorem sb_bF {p : Prop} [Decidable p] (h : ¬ p) : sb_b (decide p) = (0 : Int32) := by rw [decide_eq_false h]; rfl
/-- an argument as a number -/
theorem sb_an (h : 0 ≤ x.toInt) : x = sb_n x.toInt.toNat := by conv => lhs; rw [sb_i_of x]; rw [sb_in_n h]
end GRD
