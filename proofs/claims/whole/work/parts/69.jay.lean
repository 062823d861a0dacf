/-! the whole invariant, and calls that only ask -/
def zb_JT (s : sv_S) : Prop := ∃ n, n ≤ 140 ∧ s.1 77 3 = zb_n n ∧ s.1 187 11 = zb_n n ∧ ∀ i, i < n → s.1 78 i = s.1 197 (2240 + i)
def zb_JA (s : sv_S) : Prop := ∃ n, n ≤ 1000 ∧ s.1 175 1 = zb_n n ∧ s.1 187 73 = zb_n n ∧ ∀ i, i < n → i < 20 → s.1 176 i = s.1 238 i
def zb_JP (s : sv_S) : Prop := ∀ t, t < 6 → ∃ (o : Int) (n : Nat), -1 ≤ o ∧ o ≤ 3 ∧ n ≤ 80 ∧ (o = -1 → n = 0) ∧ s.1 178 t = zb_i o ∧ s.1 239 t = zb_i o ∧ s.1 179 t = zb_n n ∧ s.1 240 t = zb_n n ∧ ∀ i, i < 80 → s.2.1 (181 + t) i = s.2.1 241 (80 * t + i)
def zb_JE (s : sv_S) : Prop := ∃ e : Int, -1 ≤ e ∧ e ≤ 3 ∧ s.1 187 51 = zb_i e ∧ s.1 64 10 = zb_i (if e < 0 then -3 else e)
/-- the class's constants: which kind is above, and bodies -/
def zb_aL : List Int := [-1, 0, 0, 0, 1, 0, 0]
def zb_bL : List Nat := [10, 11, 12, 0, 20, 0, 30, 0, 0, 40, 0, 0, 0, 51, 50, 0, 0, 60, 70, 0, 71]
def zb_JB (s : sv_S) : Prop := (∀ k, k < 7 → s.1 1 k = zb_i (zb_aL.getD k 0)) ∧ ∀ k, k < 21 → s.1 2 k = zb_n (zb_bL.getD k 0)
/-- regions of these -/
def zb_PO1 : List Nat := [77003, 78, 187011, 197, 175001, 176, 187073, 238, 178, 179, 239, 240, 187051, 64010, 0, 1, 2]
def zb_Jo (s : sv_S) : Prop := zb_JT s ∧ zb_JA s ∧ zb_JP s ∧ zb_JE s ∧ zb_JB s
def zb_keep (s u : sv_S) : Prop := (∀ k, u.1 0 k = s.1 0 k) ∧ u.2.2.2.1 0 = s.2.2.2.1 0
def zb_J1 (N : Nat) (A B : Nat → Nat) (M : Nat → Int) (O : Nat → Nat) (K : Nat) (LO LD : Nat → Int) (LE : Nat → List zb_EF) (td Q : Nat) (R : Nat → Nat → Int) (T : Nat) (TK : Nat → Nat → Int) (W : Nat) (WK : Nat → Nat → Int) (Z : Nat) (ZK : Nat → Nat) (s : sv_S) : Prop := zb_MW N A B M O K LO LD LE td Q R T TK W WK Z ZK ∧ zb_MM N A B M O K LO LD LE td Q R T TK W WK Z ZK s ∧ zb_MX N A B M O K LO LD LE td Q R T TK W WK Z ZK s ∧ zb_Jo s ∧ s.2.2.2.2.2 ≤ 400 * K
def zb_J (s : sv_S) : Prop := ∃ N A B M O K LO LD LE td Q R T TK W WK Z ZK, zb_J1 N A B M O K LO LD LE td Q R T TK W WK Z ZK s
section JQ
variable {N K td Q T W Z : Nat} {A B O ZK : Nat → Nat} {M LO LD : Nat → Int} {LE : Nat → List zb_EF} {R TK WK : Nat → Nat → Int} {s : sv_S}
theorem zb_Jo_fx {L : List Nat} {u : sv_S} (h : zb_Jo s) (hf : zb_fx L s u) (hL : zb_PO1.all (fun x => !L.contains x) = true) : zb_Jo u := by
  obtain ⟨⟨n, t1, t2, t3, t4⟩, ⟨m, a1, a2, a3, a4⟩, hP, ⟨e, e1, e2, e3, e4⟩, hB⟩ := h
  have g := fun x (hx : x ∈ zb_PO1) => zb_no_in hL hx
  refine ⟨⟨n, t1, (hf.1 77 3 (g 77003 (by decide))).trans t2, (hf.1 187 11 (g 187011 (by decide))).trans t3, fun i hi => ?_⟩, ⟨m, a1, (hf.1 175 1 (g 175001 (by decide))).trans a2, (hf.1 187 73 (g 187073 (by decide))).trans a3, fun i hi h2 => ?_⟩, fun t ht => ?_, ⟨e, e1, e2, (hf.1 187 51 (g 187051 (by decide))).trans e3, (hf.1 64 10 (g 64010 (by decide))).trans e4⟩, ⟨fun k hk => (hf.1 1 k (g 1 (by decide))).trans (hB.1 k hk), fun k hk => (hf.1 2 k (g 2 (by decide))).trans (hB.2 k hk)⟩⟩
  · rw [hf.1 78 i (g 78 (by decide)), hf.1 197 _ (g 197 (by decide))]; exact t4 i hi
  · rw [hf.1 176 i (g 176 (by decide)), hf.1 238 i (g 238 (by decide))]; exact a4 i hi h2
  · obtain ⟨o, n, p1, p2, p3, p4, p5, p6, p7, p8, p9⟩ := hP t ht
    refine ⟨o, n, p1, p2, p3, p4, (hf.1 178 t (g 178 (by decide))).trans p5, (hf.1 239 t (g 239 (by decide))).trans p6, (hf.1 179 t (g 179 (by decide))).trans p7, (hf.1 240 t (g 240 (by decide))).trans p8, fun i hi => ?_⟩
    rw [hf.2.1]; exact p9 i hi
theorem zb_keep_fx {L : List Nat} {u : sv_S} (hf : zb_fx L s u) (hL : L.contains 0 = false) : zb_keep s u := ⟨fun k => hf.1 0 k hL, by rw [hf.2.2.2]⟩
theorem zb_keep_fr {L : List Nat} {u : sv_S} (hf : zb_fr L s u) (hL : L.contains 0 = false) : zb_keep s u := zb_keep_fx (zb_fr_fx hf) hL
theorem zb_keep_trans {u v : sv_S} (h1 : zb_keep s u) (h2 : zb_keep u v) : zb_keep s v := ⟨fun k => (h2.1 k).trans (h1.1 k), h2.2.trans h1.2⟩
/-- the class asked: its cells as before, but for scratch -/
theorem zb_J_X {L : List Nat} {u : sv_S} (h : zb_J1 N A B M O K LO LD LE td Q R T TK W WK Z ZK s) (hX : zb_MX N A B M O K LO LD LE td Q R T TK W WK Z ZK u) (hf : zb_fx L s u) (hL : (zb_PM ++ zb_PO1).all (fun x => !L.contains x) = true) : zb_J1 N A B M O K LO LD LE td Q R T TK W WK Z ZK u := by
  have h1 : zb_PM.all (fun x => !L.contains x) = true := zb_all_sub hL (by decide)
  have h2 : zb_PO1.all (fun x => !L.contains x) = true := zb_all_sub hL (by decide)
  exact ⟨h.1, zb_MM_fx h.2.1 hf h1, hX, zb_Jo_fx h.2.2.2.1 hf h2, by rw [hf.2.2.2]; exact h.2.2.2.2⟩
/-- the model asked -/
theorem zb_J_M {L : List Nat} {u : sv_S} (h : zb_J1 N A B M O K LO LD LE td Q R T TK W WK Z ZK s) (hf : zb_fr L s u) (hL : (zb_PM ++ zb_PX ++ zb_PO1).all (fun x => !L.contains x) = true) (h25 : L.all (fun x => decide (25 ≤ x)) = true) : zb_J1 N A B M O K LO LD LE td Q R T TK W WK Z ZK u := by
  have h1 : zb_PM.all (fun x => !L.contains x) = true := zb_all_sub hL (by decide)
  have h2 : zb_PX.all (fun x => !L.contains x) = true := zb_all_sub hL (by decide)
  have h3 : zb_PO1.all (fun x => !L.contains x) = true := zb_all_sub hL (by decide)
  exact ⟨h.1, zb_MM_fr h.2.1 hf h1, zb_MX_fr h.1.2.1 h.2.2.1 hf h2 h25, zb_Jo_fx h.2.2.2.1 (zb_fr_fx hf) h3, by rw [hf.2]; exact h.2.2.2.2⟩
theorem zb_J_of (h : zb_J1 N A B M O K LO LD LE td Q R T TK W WK Z ZK s) : zb_J s := ⟨N, A, B, M, O, K, LO, LD, LE, td, Q, R, T, TK, W, WK, Z, ZK, h⟩
end JQ
/-- one call of both: forms by what they answer -/
def zb_m11 {α : Type} (x : Option (α × sv_S)) (m : sv_S → Option (α × sv_S)) (s : sv_S) : Prop := zb_W x (fun r => zb_keep s r.2 ∧ zb_W (m r.2) (fun q => q.1 = r.1 ∧ zb_J q.2 ∧ zb_keep s q.2))
def zb_m01 {α : Type} (x : Option α) (m : sv_S → Option (α × sv_S)) (s : sv_S) : Prop := zb_W x (fun r => zb_W (m s) (fun q => q.1 = r ∧ zb_J q.2 ∧ zb_keep s q.2))
def zb_m10 {α : Type} (x : Option (α × sv_S)) (m : sv_S → Option α) (s : sv_S) : Prop := zb_W x (fun r => zb_keep s r.2 ∧ zb_W (m r.2) (fun q => q = r.1 ∧ zb_J r.2))
def zb_m00 {α : Type} (x : Option α) (m : sv_S → Option α) (s : sv_S) : Prop := zb_W x (fun r => zb_W (m s) (fun q => q = r))
theorem zb_keep_refl (s : sv_S) : zb_keep s s := ⟨fun _ => rfl, rfl⟩
section GRD
variable {s : sv_S} {x y : Int32}
/-- looks of the class at its arguments -/
theorem zb_g_owner : F_X_isOwner x s = some (zb_b (decide (0 ≤ x.toInt ∧ x.toInt ≤ 5))) := by
  unfold F_X_isOwner
  rw [show (0 : Int32) = zb_n 0 from rfl, show (6 : Int32) = zb_n 6 from rfl, show (1 : Int32) = zb_n 1 from rfl]
  by_cases q : x.toInt < 0
  · rw [if_pos (by rw [zb_c_ltn (by omega)]; omega), decide_eq_false (by omega)]; rfl
  · rw [if_neg (by rw [zb_c_ltn (by omega)]; omega)]
    by_cases q2 : 6 ≤ x.toInt
    · rw [if_pos (by rw [zb_n_lec (by omega)]; omega), decide_eq_false (by omega)]; rfl
    · rw [if_neg (by rw [zb_n_lec (by omega)]; omega), decide_eq_true (by omega)]; rfl
theorem zb_g_station : F_X_isStation x s = some (zb_b (decide (0 ≤ x.toInt ∧ x.toInt ≤ 15))) := by
  unfold F_X_isStation
  rw [show (0 : Int32) = zb_n 0 from rfl, show (16 : Int32) = zb_n 16 from rfl, show (1 : Int32) = zb_n 1 from rfl]
  by_cases q : x.toInt < 0
  · rw [if_pos (by rw [zb_c_ltn (by omega)]; omega), decide_eq_false (by omega)]; rfl
  · rw [if_neg (by rw [zb_c_ltn (by omega)]; omega)]
    by_cases q2 : 16 ≤ x.toInt
    · rw [if_pos (by rw [zb_n_lec (by omega)]; omega), decide_eq_false (by omega)]; rfl
    · rw [if_neg (by rw [zb_n_lec (by omega)]; omega), decide_eq_true (by omega)]; rfl
theorem zb_g_good : F_X_isGood x s = some (zb_b (decide (0 ≤ x.toInt ∧ x.toInt ≤ 19))) := by
  unfold F_X_isGood
  rw [show (0 : Int32) = zb_n 0 from rfl, show (20 : Int32) = zb_n 20 from rfl, show (1 : Int32) = zb_n 1 from rfl]
  by_cases q : x.toInt < 0
  · rw [if_pos (by rw [zb_c_ltn (by omega)]; omega), decide_eq_false (by omega)]; rfl
  · rw [if_neg (by rw [zb_c_ltn (by omega)]; omega)]
    by_cases q2 : 20 ≤ x.toInt
    · rw [if_pos (by rw [zb_n_lec (by omega)]; omega), decide_eq_false (by omega)]; rfl
    · rw [if_neg (by rw [zb_n_lec (by omega)]; omega), decide_eq_true (by omega)]; rfl
theorem zb_g_tape : F_X_isTape x s = some (zb_b (decide (0 ≤ x.toInt ∧ x.toInt ≤ 5))) := by
  unfold F_X_isTape
  rw [show (0 : Int32) = zb_n 0 from rfl, show (6 : Int32) = zb_n 6 from rfl, show (1 : Int32) = zb_n 1 from rfl]
  by_cases q : x.toInt < 0
  · rw [if_pos (by rw [zb_c_ltn (by omega)]; omega), decide_eq_false (by omega)]; rfl
  · rw [if_neg (by rw [zb_c_ltn (by omega)]; omega)]
    by_cases q2 : 6 ≤ x.toInt
    · rw [if_pos (by rw [zb_n_lec (by omega)]; omega), decide_eq_false (by omega)]; rfl
    · rw [if_neg (by rw [zb_n_lec (by omega)]; omega), decide_eq_true (by omega)]; rfl
theorem zb_g_day : F_X_isDay x s = some (zb_b (decide (0 ≤ x.toInt ∧ x.toInt ≤ 9999))) := by
  unfold F_X_isDay
  rw [show (0 : Int32) = zb_n 0 from rfl, show (9999 : Int32) = zb_n 9999 from rfl, show (1 : Int32) = zb_n 1 from rfl]
  by_cases q : x.toInt < 0
  · rw [if_pos (by rw [zb_c_ltn (by omega)]; omega), decide_eq_false (by omega)]; rfl
  · rw [if_neg (by rw [zb_c_ltn (by omega)]; omega)]
    by_cases q2 : 9999 < x.toInt
    · rw [if_pos (by rw [zb_n_ltc (by omega)]; omega), decide_eq_false (by omega)]; rfl
    · rw [if_neg (by rw [zb_n_ltc (by omega)]; omega), decide_eq_true (by omega)]; rfl
theorem zb_g_tons : F_X_areTons x s = some (zb_b (decide (1 ≤ x.toInt ∧ x.toInt ≤ 99))) := by
  unfold F_X_areTons
  rw [show (0 : Int32) = zb_n 0 from rfl, show (99 : Int32) = zb_n 99 from rfl, show (1 : Int32) = zb_n 1 from rfl]
  by_cases q : x.toInt < 1
  · rw [if_pos (by rw [zb_c_ltn (by omega)]; omega), decide_eq_false (by omega)]; rfl
  · rw [if_neg (by rw [zb_c_ltn (by omega)]; omega)]
    by_cases q2 : 99 < x.toInt
    · rw [if_pos (by rw [zb_n_ltc (by omega)]; omega), decide_eq_false (by omega)]; rfl
    · rw [if_neg (by rw [zb_n_ltc (by omega)]; omega), decide_eq_true (by omega)]; rfl
theorem zb_g_stations : F_X_areStations x y s = some (zb_b (decide ((0 ≤ x.toInt ∧ x.toInt ≤ 15) ∧ (0 ≤ y.toInt ∧ y.toInt ≤ 15)))) := by
  unfold F_X_areStations
  rw [zb_g_station, Option.bind_some, zb_g_station, show (0 : Int32) = zb_n 0 from rfl, show (1 : Int32) = zb_n 1 from rfl]
  simp only [zb_b0, Option.bind_some]
  by_cases q : 0 ≤ x.toInt ∧ x.toInt ≤ 15
  · rw [decide_eq_true q, if_neg (by decide)]
    by_cases q2 : 0 ≤ y.toInt ∧ y.toInt ≤ 15
    · rw [decide_eq_true q2, if_neg (by decide), decide_eq_true ⟨q, q2⟩]; rfl
    · rw [decide_eq_false q2, if_pos rfl, decide_eq_false (fun z => q2 z.2)]; rfl
  · rw [decide_eq_false q, if_pos rfl, decide_eq_false (fun z => q z.1)]; rfl
theorem zb_g_no1 : F_X_isOwnerOrNoOne x s = some (zb_b (decide (-1 ≤ x.toInt ∧ x.toInt ≤ 5))) := by
  unfold F_X_isOwnerOrNoOne
  rw [zb_g_owner, zb_m1, show (0 : Int32) = zb_n 0 from rfl, show (1 : Int32) = zb_n 1 from rfl]
  simp only [zb_b0, Option.bind_some]
  have e : (x = zb_i (-1)) = (x.toInt = -1) := by rw [← Int32.toInt_inj, zb_ti (by omega) (by omega)]
  by_cases q : x.toInt = -1
  · rw [if_pos (by rw [e]; exact q), decide_eq_true (by omega)]; rfl
  · rw [if_neg (by rw [e]; exact q)]
    by_cases q2 : 0 ≤ x.toInt ∧ x.toInt ≤ 5
    · rw [decide_eq_true q2, if_neg (by decide), decide_eq_true (by omega)]; rfl
    · rw [decide_eq_false q2, if_pos rfl, decide_eq_false (by omega)]; rfl
/-- looks of the model -/
theorem zb_h_in {lo hi : Int32} {a b : Int} (h1 : lo.toInt = a) (h2 : hi.toInt = b) : F_Mo_in x lo hi s = some (zb_b (decide (a ≤ x.toInt ∧ x.toInt ≤ b))) := by
  rw [zb_Mo_in]
  congr 2
  refine decide_eq_decide.mpr ?_
  rw [Int32.lt_iff_toInt_lt, Int32.lt_iff_toInt_lt, h1, h2]; omega
theorem zb_h_bl {b : Bool} {o : Option Int32} (h : o = some (zb_b b)) : (o.bind fun r1 => if sv_bl r1 = true then some r1 else none) = some (zb_b b) := by rw [h, Option.bind_some, if_pos zb_bl_b]
theorem zb_h_owner : F_Mo_isOwner x s = some (zb_b (decide (0 ≤ x.toInt ∧ x.toInt ≤ 5))) := zb_h_bl (zb_h_in rfl rfl)
theorem zb_h_station : F_Mo_isStation x s = some (zb_b (decide (0 ≤ x.toInt ∧ x.toInt ≤ 15))) := zb_h_bl (zb_h_in rfl rfl)
theorem zb_h_good : F_Mo_isGood x s = some (zb_b (decide (0 ≤ x.toInt ∧ x.toInt ≤ 19))) := zb_h_bl (zb_h_in rfl rfl)
theorem zb_h_day : F_Mo_isDay x s = some (zb_b (decide (0 ≤ x.toInt ∧ x.toInt ≤ 9999))) := zb_h_bl (zb_h_in rfl rfl)
theorem zb_h_tons : F_Mo_isTons x s = some (zb_b (decide (1 ≤ x.toInt ∧ x.toInt ≤ 99))) := zb_h_bl (zb_h_in rfl rfl)
theorem zb_h_tape : F_Mo_isTape x s = some (zb_b (decide (0 ≤ x.toInt ∧ x.toInt ≤ 5))) := zb_h_bl (zb_h_in rfl rfl)
theorem zb_bT {p : Prop} [Decidable p] (h : p) : ¬ zb_b (decide p) = (0 : Int32) := by rw [decide_eq_true h]; decide
theorem zb_bF {p : Prop} [Decidable p] (h : ¬ p) : zb_b (decide p) = (0 : Int32) := by rw [decide_eq_false h]; rfl
/-- an argument as a number -/
theorem zb_an (h : 0 ≤ x.toInt) : x = zb_n x.toInt.toNat := by conv => lhs; rw [zb_i_of x]; rw [zb_in_n h]
end GRD
