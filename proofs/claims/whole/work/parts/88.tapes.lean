/-! tapes -/
def zb_l (z : Int) : Int64 := Int64.ofInt z
theorem zb_x_l (x : Int32) : x.toInt64 = zb_l x.toInt := (Int64.ofInt_int32ToInt x).symm
theorem zb_tl {z : Int} (h1 : -9223372036854775808 ≤ z) (h2 : z ≤ 9223372036854775807) : (zb_l z).toInt = z := Int64.toInt_ofInt_of_le (by omega) (by omega)
theorem zb_l_add (a b : Int) : zb_l a + zb_l b = zb_l (a + b) := (Int64.ofInt_add a b).symm
theorem zb_l_mul (a b : Int) : zb_l a * zb_l b = zb_l (a * b) := (Int64.ofInt_mul a b).symm
theorem zb_l_lt {a b : Int} (h1 : -9223372036854775808 ≤ a) (h2 : a ≤ 9223372036854775807) (h3 : -9223372036854775808 ≤ b) (h4 : b ≤ 9223372036854775807) : (zb_l a < zb_l b) = (a < b) := by rw [Int64.lt_iff_toInt_lt, zb_tl h1 h2, zb_tl h3 h4]
theorem zb_cmp {x y : Int64} : ((0 : Int32) < lg_cmp x y) = (y < x) := by
  unfold lg_cmp
  by_cases q : x > y
  · rw [if_pos q]; exact eq_true (by decide) |>.trans (eq_true q).symm
  · rw [if_neg q]
    refine (eq_false ?_).trans (eq_false q).symm
    split <;> decide
section TPE
variable {N K td Q T W Z : Nat} {A B O ZK : Nat → Nat} {M LO LD : Nat → Int} {LE : Nat → List zb_EF} {R TK WK : Nat → Nat → Int} {s : sv_S}
variable {x1 x2 x3 x4 x5 : Int32} {y3 : Int64}
def zb_JP1 (s : sv_S) (t : Nat) : Prop := ∃ (o : Int) (n : Nat), -1 ≤ o ∧ o ≤ 3 ∧ n ≤ 80 ∧ (o = -1 → n = 0) ∧ s.1 178 t = zb_i o ∧ s.1 239 t = zb_i o ∧ s.1 179 t = zb_n n ∧ s.1 240 t = zb_n n ∧ ∀ i, i < 80 → s.2.1 (181 + t) i = s.2.1 241 (80 * t + i)
/-- longs may change -/
def zb_fll (L : List Nat) (s u : sv_S) : Prop := (∀ c k, L.contains (zb_rg c k) = false → u.1 c k = s.1 c k) ∧ u.2.2 = s.2.2
theorem zb_fll_trans {L : List Nat} {s t u : sv_S} (h1 : zb_fll L s t) (h2 : zb_fll L t u) : zb_fll L s u := ⟨fun c k h => (h2.1 c k h).trans (h1.1 c k h), h2.2.trans h1.2⟩
theorem zb_fll_refl (L : List Nat) (s : sv_S) : zb_fll L s s := ⟨fun _ _ _ => rfl, rfl⟩
theorem zb_fll_fr {L : List Nat} {s u : sv_S} (h : zb_fr L s u) : zb_fll L s u := ⟨h.1, by rw [h.2]⟩
theorem zb_fll_set {L : List Nat} {s t : sv_S} {c k : Nat} {v : Int32} (h : zb_fll L s t) (hc : L.contains (zb_rg c k) = true) : zb_fll L s (ss_setI t c k v) := by
  refine ⟨fun a j q => ?_, h.2⟩
  have : ¬ (a = c ∧ j = k) := fun e => by rw [e.1, e.2, hc] at q; cases q
  exact (zb_up_ne this).trans (h.1 a j q)
theorem zb_fll_setL {L : List Nat} {s t : sv_S} {c k : Nat} {v : Int64} (h : zb_fll L s t) : zb_fll L s (ss_setL t c k v) := ⟨h.1, h.2⟩
theorem zb_keep_fl {L : List Nat} {u : sv_S} (hf : zb_fll L s u) (hL : L.contains 0 = false) : zb_keep s u := ⟨fun k => hf.1 0 k hL, by rw [hf.2]⟩
theorem zb_J_L {L : List Nat} {u : sv_S} (h : zb_J1 N A B M O K LO LD LE td Q R T TK W WK Z ZK s) (hf : zb_fll L s u) (hL : (zb_PM ++ zb_PX ++ [77003, 78, 187011, 197, 175001, 176, 187073, 238, 187051, 64010, 0, 1, 2]).all (fun x => !L.contains x) = true) (h25 : L.all (fun x => decide (25 ≤ x)) = true) (hp : zb_JP u) : zb_J1 N A B M O K LO LD LE td Q R T TK W WK Z ZK u := by
  obtain ⟨u1, ul, u2⟩ := u
  obtain ⟨hf1, hf2⟩ := hf
  dsimp only at hf1 hf2
  subst hf2
  have fv : zb_fr L s (u1, s.2) := ⟨hf1, rfl⟩
  have M1 := zb_MM_fr h.2.1 fv (zb_all_sub hL (by decide))
  have X1 := zb_MX_fr h.1.2.1 h.2.2.1 fv (zb_all_sub hL (by decide)) h25
  obtain ⟨⟨n, t1, t2, t3, t4⟩, ⟨m, a1, a2, a3, a4⟩, _, ⟨e, e1, e2, e3, e4⟩, hB⟩ := h.2.2.2.1
  have hO : ([77003, 78, 187011, 197, 175001, 176, 187073, 238, 187051, 64010, 0, 1, 2] : List Nat).all (fun x => !L.contains x) = true := zb_all_sub hL (by decide)
  have g := fun x (hx : x ∈ ([77003, 78, 187011, 197, 175001, 176, 187073, 238, 187051, 64010, 0, 1, 2] : List Nat)) => zb_no_in hO hx
  refine ⟨h.1, ?_, ?_, ⟨⟨n, t1, (hf1 77 3 (g 77003 (by decide))).trans t2, (hf1 187 11 (g 187011 (by decide))).trans t3, fun i hi => ?_⟩, ⟨m, a1, (hf1 175 1 (g 175001 (by decide))).trans a2, (hf1 187 73 (g 187073 (by decide))).trans a3, fun i hi h2 => ?_⟩, hp, ⟨e, e1, e2, (hf1 187 51 (g 187051 (by decide))).trans e3, (hf1 64 10 (g 64010 (by decide))).trans e4⟩, ⟨fun k hk => (hf1 1 k (g 1 (by decide))).trans (hB.1 k hk), fun k hk => (hf1 2 k (g 2 (by decide))).trans (hB.2 k hk)⟩⟩, h.2.2.2.2⟩
  · unfold zb_MM zb_RM zb_LM zb_QM zb_row5 zb_row1 at M1 ⊢
    exact M1
  · unfold zb_MX zb_RX zb_gd zb_LX zb_LX0 zb_LXc zb_SS zb_QX zb_row5 zb_row1 at X1 ⊢
    exact X1
  · show u1 78 i = u1 197 (2240 + i)
    rw [hf1 78 i (g 78 (by decide)), hf1 197 _ (g 197 (by decide))]; exact t4 i hi
  · show u1 176 i = u1 238 i
    rw [hf1 176 i (g 176 (by decide)), hf1 238 i (g 238 (by decide))]; exact a4 i hi h2
theorem zb_N181 {l : Nat → Nat} {t : Nat} (ht : t < 6) : ss_N l (181 + t) = 80 := by
  have : t = 0 ∨ t = 1 ∨ t = 2 ∨ t = 3 ∨ t = 4 ∨ t = 5 := by omega
  rcases this with rfl | rfl | rfl | rfl | rfl | rfl <;> rfl
theorem zb_setL_eq {s : sv_S} {c k : Nat} {v : Int64} : (ss_setL s c k v).2.1 c k = v := zb_up_eq
theorem zb_setL_ne {s : sv_S} {c k a j : Nat} {v : Int64} (h : ¬ (a = c ∧ j = k)) : (ss_setL s c k v).2.1 a j = s.2.1 a j := zb_up_ne h
theorem zb_fillL {c : Nat} {v : Int64} (hc : ss_N s.2.2.2.1 c = 80) : zb_W (F_JA_fillL c v s) (fun u => u.1 = s.1 ∧ u.2.2 = s.2.2 ∧ (∀ i, i < 80 → u.2.1 c i = v) ∧ ∀ a j, a ≠ c → u.2.1 a j = s.2.1 a j) := by
  unfold F_JA_fillL
  refine zb_Wlet ?_
  rw [hc]
  refine zb_for (fun n k u => F_JA_fillL_b6 n c v (zb_n k) (zb_n 80) u) 80 (fun k u => u.1 = s.1 ∧ u.2.2 = s.2.2 ∧ (∀ i, i < k → u.2.1 c i = v) ∧ ∀ a j, a ≠ c → u.2.1 a j = s.2.1 a j) ?_ ?_ ss_F 0 s (by omega) (by unfold ss_F; omega) ⟨rfl, rfl, fun i hi => absurd hi (by omega), fun _ _ _ => rfl⟩
  · intro n u hu
    simp only [F_JA_fillL_b6]
    exact zb_Wpos (Int32.le_refl _) (zb_Wsome hu)
  · intro n k u hk hu ih
    obtain ⟨e1, e2, e3, e4⟩ := hu
    simp only [F_JA_fillL_b6]
    refine zb_Wneg (by rw [zb_n_le (by omega) (by omega)]; omega) ?_
    refine zb_Wpos (by rw [zb_ib_n (by omega), e2, hc]; omega) (zb_Wlet (zb_Wlet ?_))
    rw [zb_n_ix (by omega), show zb_n k + (1 : Int32) = zb_n (k + 1) from zb_n_add k 1]
    refine ih _ ⟨e1, e2, fun i hi => ?_, fun a j ha => ?_⟩
    · by_cases e : i = k
      · subst e; exact zb_setL_eq
      · rw [zb_setL_ne (by omega)]; exact e3 i (by omega)
    · rw [zb_setL_ne (fun z => ha z.1)]; exact e4 a j ha
theorem zb_tape_M {t : Nat} (ht : t < 6) : zb_W (F_Mo_tape_b69 ss_F (zb_n t) (0 : Int32) s) (fun r => r.1 = (1 : Int32) ∧ r.2.1 = s.1 ∧ r.2.2.2 = s.2.2 ∧ (∀ i, i < 80 → r.2.2.1 241 (80 * t + i) = 0) ∧ ∀ a j, ¬ (a = 241 ∧ 80 * t ≤ j ∧ j < 80 * t + 80) → r.2.2.1 a j = s.2.1 a j) := by
  refine zb_for (fun n k u => F_Mo_tape_b69 n (zb_n t) (zb_n k) u) 80 (fun k u => u.1 = s.1 ∧ u.2.2 = s.2.2 ∧ (∀ i, i < k → u.2.1 241 (80 * t + i) = 0) ∧ ∀ a j, ¬ (a = 241 ∧ 80 * t ≤ j ∧ j < 80 * t + 80) → u.2.1 a j = s.2.1 a j) ?_ ?_ ss_F 0 s (by omega) (by unfold ss_F; omega) ⟨rfl, rfl, fun i hi => absurd hi (by omega), fun _ _ _ => rfl⟩
  · intro n u hu
    simp only [F_Mo_tape_b69]
    exact zb_Wpos (Int32.le_refl _) (zb_Wsome ⟨rfl, hu⟩)
  · intro n k u hk hu ih
    obtain ⟨e1, e2, e3, e4⟩ := hu
    simp only [F_Mo_tape_b69]
    rw [show (80 : Int32) * zb_n t + zb_n k = zb_n (80 * t + k) by rw [show (80 : Int32) = zb_n 80 from rfl, zb_n_mul, zb_n_add]]
    refine zb_Wneg (by rw [show (80 : Int32) = zb_n 80 from rfl, zb_n_le (by omega) (by omega)]; omega) ?_
    refine zb_Wpos (by rw [zb_ib_n (by omega)]; omega) (zb_Wlet (zb_Wlet ?_))
    rw [zb_n_ix (by omega), show zb_n k + (1 : Int32) = zb_n (k + 1) from zb_n_add k 1]
    refine ih _ ⟨e1, e2, fun i hi => ?_, fun a j ha => ?_⟩
    · by_cases e : i = k
      · subst e; exact zb_setL_eq
      · rw [zb_setL_ne (by omega)]; exact e3 i (by omega)
    · rw [zb_setL_ne (fun z => ha ⟨z.1, by omega, by omega⟩)]; exact e4 a j ha
theorem zb_ibn6 {t : Nat} (ht : t < 6) : sv_ib (zb_n t) 6 = true := by rw [zb_ib_n (by omega)]; exact ht
def zb_ZT : List Nat := [178, 179, 239, 240]
/-- a tape is laid -/
theorem zb_lay (h : zb_J1 N A B M O K LO LD LE td Q R T TK W WK Z ZK s) {t n : Nat} {o : Int} (ht : t < 6) (ho : -1 ≤ o) (ho3 : o ≤ 3) (hn : n ≤ 80) (hon : o = -1 → n = 0) : zb_W (F_Ta_lay (zb_n t) (zb_i o) (zb_n n) s) (fun u => zb_keep s u ∧ zb_W (F_Mo_tape_b69 ss_F (zb_n t) (0 : Int32) (ss_setI (ss_setI u 239 t (zb_i o)) 240 t (zb_n n))) (fun q => q.1 = (1 : Int32) ∧ zb_J q.2 ∧ zb_keep s q.2)) := by
  have i6 := zb_ibn6 ht
  unfold F_Ta_lay
  simp only [i6, if_true, zb_n_ix (show t ≤ 2147483647 by omega)]
  refine zb_Wlet (zb_Wlet (zb_Wbind2 (zb_fillL (zb_N181 ht)) (fun u hu => zb_Wsome ?_)))
  obtain ⟨u1, u2, u3, u4⟩ := hu
  have fu : zb_fll zb_ZT s u := by
    have f0 : zb_fll zb_ZT s (ss_setI (ss_setI s 178 t (zb_i o)) 179 t (zb_n n)) := zb_fll_set (zb_fll_set (zb_fll_refl _ _) rfl) rfl
    exact ⟨fun c k q => by rw [u1]; exact f0.1 c k q, u2.trans f0.2⟩
  have e178 : ∀ j, u.1 178 j = if j = t then zb_i o else s.1 178 j := fun j => by
    rw [u1, zb_set_ne (by omega)]
    by_cases e : j = t
    · subst e; rw [if_pos rfl, zb_set_eq]
    · rw [if_neg e, zb_set_ne (by omega)]
  have e179 : ∀ j, u.1 179 j = if j = t then zb_n n else s.1 179 j := fun j => by
    rw [u1]
    by_cases e : j = t
    · subst e; rw [if_pos rfl, zb_set_eq]
    · rw [if_neg e, zb_set_ne (by omega), zb_set_ne (by omega)]
  have e239 : ∀ j, u.1 239 j = s.1 239 j := fun j => by rw [u1, zb_set_ne (by omega), zb_set_ne (by omega)]
  have e240 : ∀ j, u.1 240 j = s.1 240 j := fun j => by rw [u1, zb_set_ne (by omega), zb_set_ne (by omega)]
  refine ⟨zb_keep_fl fu rfl, zb_Wmono (zb_tape_M ht) (fun q hq => ?_)⟩
  obtain ⟨q1, q2, q3, q4, q5⟩ := hq
  have fq : zb_fll zb_ZT s q.2 := by
    have f0 : zb_fll zb_ZT s (ss_setI (ss_setI u 239 t (zb_i o)) 240 t (zb_n n)) := zb_fll_set (zb_fll_set fu rfl) rfl
    exact ⟨fun c k z => by rw [q2]; exact f0.1 c k z, q3.trans f0.2⟩
  refine ⟨q1, zb_J_of (zb_J_L h fq (by decide) (by decide) (fun j hj => ?_)), zb_keep_fl fq rfl⟩
  have g178 : q.2.1 178 j = u.1 178 j := by rw [q2, zb_set_ne (by omega), zb_set_ne (by omega)]
  have g179 : q.2.1 179 j = u.1 179 j := by rw [q2, zb_set_ne (by omega), zb_set_ne (by omega)]
  by_cases e : j = t
  · subst e
    refine ⟨o, n, ho, ho3, hn, hon, ?_, ?_, ?_, ?_, fun i hi => ?_⟩
    · rw [g178, e178, if_pos rfl]
    · rw [q2, zb_set_ne (by omega), zb_set_eq]
    · rw [g179, e179, if_pos rfl]
    · rw [q2, zb_set_eq]
    · rw [q4 i hi, q5 _ _ (by omega)]
      exact u3 i hi
  · obtain ⟨o', n', p1, p2, p3, p4, p5, p6, p7, p8, p9⟩ := h.2.2.2.1.2.2.1 j hj
    refine ⟨o', n', p1, p2, p3, p4, ?_, ?_, ?_, ?_, fun i hi => ?_⟩
    · rw [g178, e178, if_neg e]; exact p5
    · rw [q2, zb_set_ne (by omega), zb_set_ne (by omega), e239]; exact p6
    · rw [g179, e179, if_neg e]; exact p7
    · rw [q2, zb_set_ne (by omega), zb_set_ne (by omega), e240]; exact p8
    · rw [q5 _ _ (by omega), q5 _ _ (by omega)]
      show u.2.1 (181 + j) i = u.2.1 241 (80 * j + i)
      rw [u4 _ _ (by omega), u4 _ _ (by omega)]
      exact p9 i hi
theorem zb_c_tape (h : zb_J s) : zb_m11 (F_X_tape x1 x2 x3 s) (F_Mo_tape x1 x2 x3) s := by
  obtain ⟨N, A, B, M, O, K, LO, LD, LE, td, Q, R, T, TK, W, WK, Z, ZK, h⟩ := h
  have hj := zb_J_of h
  have z1 : (x2 = (-1 : Int32)) = (x2.toInt = -1) := by rw [zb_eqI, zb_m1t]
  have z2 : (x2 < (0 : Int32)) = (x2.toInt < 0) := by rw [show (0 : Int32) = zb_n 0 from rfl]; exact zb_c_ltn (by omega)
  have z3 : ((4 : Int32) ≤ x2) = (4 ≤ x2.toInt) := by rw [show (4 : Int32) = zb_n 4 from rfl]; exact zb_n_lec (by omega)
  have z4 : (x3 ≤ (80 : Int32)) = (x3.toInt ≤ 80) := by rw [show (80 : Int32) = zb_n 80 from rfl]; exact zb_c_len (by omega)
  have z5 : ((0 : Int32) ≤ x3) = (0 ≤ x3.toInt) := by rw [show (0 : Int32) = zb_n 0 from rfl]; exact zb_n_lec (by omega)
  have z6 : ((0 : Int32) ≤ x2) = (0 ≤ x2.toInt) := by rw [show (0 : Int32) = zb_n 0 from rfl]; exact zb_n_lec (by omega)
  have xg : F_X_tape x1 x2 x3 s = if ¬ (0 ≤ x1.toInt ∧ x1.toInt ≤ 5) then some ((-1 : Int32), s) else if x2.toInt = -1 then (F_Ta_lay x1 (-1 : Int32) (0 : Int32) s).bind fun r3 => some ((1 : Int32), r3) else if x2.toInt < 0 then some ((-2 : Int32), s) else if 4 ≤ x2.toInt then some ((-2 : Int32), s) else if x3.toInt ≤ 80 then (if 0 ≤ x3.toInt then (F_Ta_lay x1 x2 x3 s).bind fun r2 => some ((1 : Int32), r2) else some ((-14 : Int32), s)) else some ((-2 : Int32), s) := by
    simp only [F_X_tape, z1, z2, z3, z4, z5, zb_g_owner, zb_g_station, zb_g_good, zb_g_tape, zb_g_day, zb_g_tons, zb_g_stations, zb_g_no1, zb_h_owner, zb_h_station, zb_h_good, zb_h_day, zb_h_tons, zb_h_tape, zb_h_inL, Option.bind_some, zb_bz, Int32.reduceToInt, zb_m1t, zb_m3t]
  have mg : ∀ u, F_Mo_tape x1 x2 x3 u = if ¬ (0 ≤ x1.toInt ∧ x1.toInt ≤ 5) then some ((-1 : Int32), u) else if ¬ (-1 ≤ x2.toInt ∧ x2.toInt ≤ 3) then some ((-2 : Int32), u) else if x2.toInt < 0 then F_Mo_tape_b44 x1 x2 x3 u else if x3.toInt ≤ 80 then (if 0 ≤ x3.toInt then F_Mo_tape_b44 x1 x2 x3 u else some ((-14 : Int32), u)) else some ((-2 : Int32), u) := by
    intro u
    simp only [F_Mo_tape, F_Mo_tape_b33, z2, z4, z5, zb_g_owner, zb_g_station, zb_g_good, zb_g_tape, zb_g_day, zb_g_tons, zb_g_stations, zb_g_no1, zb_h_owner, zb_h_station, zb_h_good, zb_h_day, zb_h_tons, zb_h_tape, zb_h_inL, Option.bind_some, zb_bz, Int32.reduceToInt, zb_m1t, zb_m3t]
    by_cases q : x2.toInt < 0
    · simp only [q, if_true]
    · simp only [q, if_false]
  have no : ∀ v : Int32, F_X_tape x1 x2 x3 s = some (v, s) → F_Mo_tape x1 x2 x3 s = some (v, s) → zb_m11 (F_X_tape x1 x2 x3 s) (F_Mo_tape x1 x2 x3) s := fun v a b => zb_m11_no hj a b
  by_cases q1 : 0 ≤ x1.toInt ∧ x1.toInt ≤ 5
  rotate_left
  · exact no _ (by rw [xg, if_pos q1]) (by rw [mg, if_pos q1])
  simp only [if_neg (not_not_intro q1)] at xg mg
  obtain ⟨t, ht, rfl⟩ := zb_an2 q1
  have ht6 : t < 6 := by omega
  have i6 := zb_ibn6 ht6
  have ix : (zb_n t).toNatClampNeg = t := zb_n_ix (by omega)
  by_cases q2 : x2.toInt = -1
  · rw [if_pos q2] at xg
    unfold zb_m11
    rw [xg, zb_m1, show (0 : Int32) = zb_n 0 from rfl]
    refine zb_Wbind2 (zb_lay h ht6 (o := -1) (n := 0) (by omega) (by omega) (by omega) (fun _ => rfl)) (fun u hu => zb_Wsome ⟨hu.1, ?_⟩)
    rw [mg, if_neg (by omega), if_pos (by omega)]
    unfold F_Mo_tape_b44
    refine zb_Wpos i6 (zb_Wlet (zb_Wneg (by rw [z6]; omega) ?_))
    unfold F_Mo_tape_b65
    refine zb_Wpos i6 (zb_Wlet ?_)
    rw [ix, show x2 = zb_i (-1) by rw [← q2]; exact zb_i_of x2]
    exact hu.2
  rw [if_neg q2] at xg
  by_cases q3 : x2.toInt < 0
  · exact no _ (by rw [xg, if_pos q3]) (by rw [mg, if_pos (by omega)])
  rw [if_neg q3] at xg
  by_cases q4 : 4 ≤ x2.toInt
  · exact no _ (by rw [xg, if_pos q4]) (by rw [mg, if_pos (by omega)])
  rw [if_neg q4] at xg
  simp only [if_neg q3, if_neg (show ¬ ¬ (-1 ≤ x2.toInt ∧ x2.toInt ≤ 3) by omega)] at mg
  by_cases q5 : x3.toInt ≤ 80
  rotate_left
  · exact no _ (by rw [xg, if_neg q5]) (by rw [mg, if_neg q5])
  rw [if_pos q5] at xg
  simp only [if_pos q5] at mg
  by_cases q6 : 0 ≤ x3.toInt
  rotate_left
  · exact no _ (by rw [xg, if_neg q6]) (by rw [mg, if_neg q6])
  rw [if_pos q6] at xg
  simp only [if_pos q6] at mg
  obtain ⟨n, hn, rfl⟩ := zb_an2 ⟨q6, q5⟩
  unfold zb_m11
  rw [xg]
  conv => lhs; rw [zb_i_of x2]
  refine zb_Wbind2 (zb_lay h ht6 (o := x2.toInt) (n := n) (by omega) (by omega) (by omega) (fun z => absurd z q2)) (fun u hu => zb_Wsome ⟨hu.1, ?_⟩)
  rw [mg]
  unfold F_Mo_tape_b44
  refine zb_Wpos i6 (zb_Wlet (zb_Wpos (by rw [z6]; omega) ?_))
  unfold F_Mo_tape_b65
  refine zb_Wpos i6 (zb_Wlet ?_)
  rw [ix]
  have := hu.2
  rw [← zb_i_of x2] at this
  exact this
/-- what is cut to a sort -/
def zb_ctv (o : Int) (y : Int64) : Int64 := if o = 0 then y.toInt32.toInt8.toInt32.toInt64 else if o = 1 then y.toInt32.toInt16.toInt32.toInt64 else if o = 2 then y.toInt32.toInt64 else y
theorem zb_reaches {t n : Nat} (ht : t < 6) (hn : n ≤ 80) (e : s.1 179 t = zb_n n) : F_Ta_reaches (zb_n t) x2 x3 s = some (zb_b (decide (0 ≤ x2.toInt ∧ 0 ≤ x3.toInt ∧ x2.toInt + x3.toInt ≤ n))) := by
  have z2 : (x2 < (0 : Int32)) = (x2.toInt < 0) := by rw [show (0 : Int32) = zb_n 0 from rfl]; exact zb_c_ltn (by omega)
  have z3 : (x3 < (0 : Int32)) = (x3.toInt < 0) := by rw [show (0 : Int32) = zb_n 0 from rfl]; exact zb_c_ltn (by omega)
  have b2 := Int32.toInt_lt x2
  have b3 := Int32.toInt_lt x3
  have c2 := Int32.le_toInt x2
  have c3 := Int32.le_toInt x3
  unfold F_Ta_reaches
  simp only [z2, z3, zb_ibn6 ht, if_true, zb_n_ix (show t ≤ 2147483647 by omega), e, zb_cmp, zb_x_l, zb_l_add, zb_tn (show n ≤ 2147483647 by omega)]
  simp only [zb_l_lt (a := (n : Int)) (b := x2.toInt + x3.toInt) (by omega) (by omega) (by omega) (by omega)]
  by_cases q1 : x2.toInt < 0
  · rw [if_pos q1, decide_eq_false (by omega)]; rfl
  rw [if_neg q1]
  by_cases q2 : x3.toInt < 0
  · rw [if_pos q2, decide_eq_false (by omega)]; rfl
  rw [if_neg q2]
  by_cases q3 : (n : Int) < x2.toInt + x3.toInt
  · rw [if_pos q3, decide_eq_false (by omega)]; rfl
  · rw [if_neg q3, decide_eq_true (by omega)]; rfl
theorem zb_cut {o : Int} (h1 : -1 ≤ o) (h2 : o ≤ 3) : F_Ta_cut (zb_i o) y3 s = some (zb_ctv o y3) := by
  have e : ∀ k : Nat, k ≤ 3 → (zb_i o = zb_n k) = (o = k) := fun k hk => by rw [zb_n_i]; exact zb_i_eq (by omega) (by omega) (by omega) (by omega)
  unfold F_Ta_cut zb_ctv
  rw [show (0 : Int32) = zb_n 0 from rfl, show (1 : Int32) = zb_n 1 from rfl, show (2 : Int32) = zb_n 2 from rfl]
  simp only [e 0 (by omega), e 1 (by omega), e 2 (by omega)]
  by_cases q0 : o = 0
  · rw [if_pos (by omega), if_pos q0]
  rw [if_neg (by omega), if_neg q0]
  by_cases q1 : o = 1
  · rw [if_pos (by omega), if_pos q1]
  rw [if_neg (by omega), if_neg q1]
  by_cases q2 : o = 2
  · rw [if_pos (by omega), if_pos q2]
  rw [if_neg (by omega), if_neg q2]
theorem zb_c_item (h : zb_J s) : zb_m11 (F_X_item x1 x2 y3 s) (F_Mo_item x1 x2 y3) s := by
  obtain ⟨N, A, B, M, O, K, LO, LD, LE, td, Q, R, T, TK, W, WK, Z, ZK, h⟩ := h
  have hj := zb_J_of h
  have no : ∀ v : Int32, F_X_item x1 x2 y3 s = some (v, s) → F_Mo_item x1 x2 y3 s = some (v, s) → zb_m11 (F_X_item x1 x2 y3 s) (F_Mo_item x1 x2 y3) s := fun v a b => zb_m11_no hj a b
  by_cases q1 : 0 ≤ x1.toInt ∧ x1.toInt ≤ 5
  rotate_left
  · exact no (-1 : Int32) (by simp only [F_X_item, zb_g_owner, zb_g_station, zb_g_good, zb_g_tape, zb_g_day, zb_g_tons, zb_g_stations, zb_g_no1, zb_h_owner, zb_h_station, zb_h_good, zb_h_day, zb_h_tons, zb_h_tape, zb_h_inL, Option.bind_some, zb_bz, Int32.reduceToInt, zb_m1t, zb_m3t]; rw [if_pos q1]) (by simp only [F_Mo_item, zb_g_owner, zb_g_station, zb_g_good, zb_g_tape, zb_g_day, zb_g_tons, zb_g_stations, zb_g_no1, zb_h_owner, zb_h_station, zb_h_good, zb_h_day, zb_h_tons, zb_h_tape, zb_h_inL, Option.bind_some, zb_bz, Int32.reduceToInt, zb_m1t, zb_m3t]; rw [if_pos q1])
  obtain ⟨t, ht, rfl⟩ := zb_an2 q1
  have ht6 : t < 6 := by omega
  have i6 := zb_ibn6 ht6
  have ix : (zb_n t).toNatClampNeg = t := zb_n_ix (by omega)
  obtain ⟨o, n, p1, p2, p3, p4, p5, p6, p7, p8, p9⟩ := h.2.2.2.1.2.2.1 t ht6
  have eo : (zb_i o = zb_i (-1)) = (o = -1) := zb_i_eq (by omega) (by omega) (by omega) (by omega)
  have o2 := zb_sg2 (x := o) (by omega) (by omega)
  have xg : F_X_item (zb_n t) x2 y3 s = if o = -1 then some ((-11 : Int32), s) else if ¬ (0 ≤ x2.toInt ∧ 0 ≤ (1 : Int32).toInt ∧ x2.toInt + (1 : Int32).toInt ≤ n) then some ((-13 : Int32), s) else if sv_ib x2 80 = true then some ((1 : Int32), ss_setL s (181 + t) x2.toNatClampNeg (zb_ctv o y3)) else none := by
    simp only [F_X_item, zb_g_owner, zb_g_station, zb_g_good, zb_g_tape, zb_g_day, zb_g_tons, zb_g_stations, zb_g_no1, zb_h_owner, zb_h_station, zb_h_good, zb_h_day, zb_h_tons, zb_h_tape, zb_h_inL, Option.bind_some, zb_bz, Int32.reduceToInt, zb_m1t, zb_m3t]
    rw [if_neg (not_not_intro q1), if_pos i6, ix, p5, zb_m1]
    simp only [eo, zb_reaches ht6 p3 p7, zb_cut p1 p2, i6, if_true, zb_N181 ht6, zb_g_owner, zb_g_station, zb_g_good, zb_g_tape, zb_g_day, zb_g_tons, zb_g_stations, zb_g_no1, zb_h_owner, zb_h_station, zb_h_good, zb_h_day, zb_h_tons, zb_h_tape, zb_h_inL, Option.bind_some, zb_bz, Int32.reduceToInt, zb_m1t, zb_m3t]
    rfl
  have mg : ∀ u : sv_S, u.1 = s.1 → F_Mo_item (zb_n t) x2 y3 u = if 0 ≤ o then if ¬ (0 ≤ x2.toInt ∧ x2.toInt < n) then some ((-13 : Int32), u) else if sv_ib ((80 : Int32) * zb_n t + x2) 480 = true then some ((1 : Int32), ss_setL u 241 ((80 : Int32) * zb_n t + x2).toNatClampNeg (zb_ctv o y3)) else none else some ((-11 : Int32), u) := by
    intro u hu
    have e8 : u.1 240 t = zb_n n := by rw [hu]; exact p8
    simp only [F_Mo_item, zb_h_tape, Option.bind_some, zb_bz]
    rw [if_neg (not_not_intro q1)]
    simp only [i6, if_true, ix, zb_isnL e8 (show n ≤ 1000 by omega), Option.bind_some, zb_bz]
    rw [hu, p6]
    simp only [o2]
    by_cases w : 0 ≤ o
    rotate_left
    · rw [if_neg w, if_neg w]
    rw [if_pos w, if_pos w]
    by_cases w2 : 0 ≤ x2.toInt ∧ x2.toInt < n
    rotate_left
    · rw [if_pos w2, if_pos w2]
    rw [if_neg (not_not_intro w2), if_neg (not_not_intro w2)]
    have e : ∀ k : Nat, k ≤ 3 → (zb_i o = zb_n k) = (o = k) := fun k hk => by rw [zb_n_i]; exact zb_i_eq (by omega) (by omega) (by omega) (by omega)
    unfold zb_ctv
    by_cases w3 : o = 0
    · subst w3; rw [if_pos (by decide)]; rfl
    rw [if_neg (by rw [show (0 : Int32) = zb_n 0 from rfl, e 0 (by omega)]; omega), if_neg w3]
    by_cases w4 : o = 1
    · subst w4; rw [if_pos (by decide)]; rfl
    rw [if_neg (by rw [show (1 : Int32) = zb_n 1 from rfl, e 1 (by omega)]; omega), if_neg w4]
    by_cases w5 : o = 2
    · subst w5; rw [if_pos (by decide)]; rfl
    rw [if_neg (by rw [show (2 : Int32) = zb_n 2 from rfl, e 2 (by omega)]; omega), if_neg w5]
    rfl
  have t1 : (1 : Int32).toInt = 1 := by decide
  rw [t1] at xg
  by_cases w1 : o = -1
  · exact no _ (by rw [xg, if_pos w1]) (by rw [mg s rfl, if_neg (by omega)])
  rw [if_neg w1] at xg
  by_cases w2 : 0 ≤ x2.toInt ∧ x2.toInt < n
  rotate_left
  · exact no _ (by rw [xg, if_pos (by omega)]) (by rw [mg s rfl, if_pos (by omega), if_pos w2])
  rw [if_neg (by omega)] at xg
  obtain ⟨i, hi, rfl⟩ := zb_an3 w2
  unfold zb_m11
  rw [xg]
  refine zb_Wpos (by rw [zb_ib_n (by omega)]; omega) (zb_Wsome ?_)
  rw [zb_n_ix (by omega)]
  refine ⟨⟨fun k => rfl, rfl⟩, ?_⟩
  dsimp only
  rw [mg (ss_setL s (181 + t) i (zb_ctv o y3)) rfl, if_pos (by omega), if_neg (not_not_intro w2), show (80 : Int32) * zb_n t + zb_n i = zb_n (80 * t + i) by rw [show (80 : Int32) = zb_n 80 from rfl, zb_n_mul, zb_n_add]]
  refine zb_Wpos (by rw [zb_ib_n (by omega)]; omega) (zb_Wsome ⟨rfl, ?_, ⟨fun k => rfl, rfl⟩⟩)
  dsimp only
  rw [zb_n_ix (by omega)]
  refine zb_J_of (zb_J_L (L := []) h ⟨fun _ _ _ => rfl, rfl⟩ (by decide) (by decide) (fun j hj => ?_))
  obtain ⟨o', n', r1, r2, r3, r4, r5, r6, r7, r8, r9⟩ := h.2.2.2.1.2.2.1 j hj
  refine ⟨o', n', r1, r2, r3, r4, r5, r6, r7, r8, fun k hk => ?_⟩
  rw [zb_setL_ne (by omega)]
  by_cases e : j = t ∧ k = i
  · obtain ⟨rfl, rfl⟩ := e
    rw [zb_setL_eq, zb_setL_eq]
  · rw [zb_setL_ne (by omega), zb_setL_ne (by omega), zb_setL_ne (by omega)]
    exact r9 k hk
theorem zb_c_read (h : zb_J s) : zb_m00 (F_X_read x1 x2 s) (F_Mo_read x1 x2) s := by
  obtain ⟨N, A, B, M, O, K, LO, LD, LE, td, Q, R, T, TK, W, WK, Z, ZK, h⟩ := h
  have both : ∀ v : Int64, F_X_read x1 x2 s = some v → F_Mo_read x1 x2 s = some v → zb_m00 (F_X_read x1 x2 s) (F_Mo_read x1 x2) s := by
    intro v a b
    unfold zb_m00
    rw [a, b]
    exact zb_Wsome (zb_Wsome rfl)
  by_cases q1 : 0 ≤ x1.toInt ∧ x1.toInt ≤ 5
  rotate_left
  · exact both _ (by simp only [F_X_read, zb_g_owner, zb_g_station, zb_g_good, zb_g_tape, zb_g_day, zb_g_tons, zb_g_stations, zb_g_no1, zb_h_owner, zb_h_station, zb_h_good, zb_h_day, zb_h_tons, zb_h_tape, zb_h_inL, Option.bind_some, zb_bz, Int32.reduceToInt, zb_m1t, zb_m3t]; rw [if_pos q1]) (by simp only [F_Mo_read, zb_g_owner, zb_g_station, zb_g_good, zb_g_tape, zb_g_day, zb_g_tons, zb_g_stations, zb_g_no1, zb_h_owner, zb_h_station, zb_h_good, zb_h_day, zb_h_tons, zb_h_tape, zb_h_inL, Option.bind_some, zb_bz, Int32.reduceToInt, zb_m1t, zb_m3t]; rw [if_pos q1])
  obtain ⟨t, ht, rfl⟩ := zb_an2 q1
  have ht6 : t < 6 := by omega
  have i6 := zb_ibn6 ht6
  have ix : (zb_n t).toNatClampNeg = t := zb_n_ix (by omega)
  obtain ⟨o, n, p1, p2, p3, p4, p5, p6, p7, p8, p9⟩ := h.2.2.2.1.2.2.1 t ht6
  have o1 := zb_sg1 (x := o) (by omega) (by omega)
  have t1 : (1 : Int32).toInt = 1 := by decide
  have xg : F_X_read (zb_n t) x2 s = if ¬ (0 ≤ x2.toInt ∧ 0 ≤ (1 : Int32).toInt ∧ x2.toInt + (1 : Int32).toInt ≤ n) then some (-9223372036854775808 : Int64) else if sv_ib x2 80 = true then some (s.2.1 (181 + t) x2.toNatClampNeg) else none := by
    simp only [F_X_read, zb_g_tape, Option.bind_some, zb_bz]
    rw [if_neg (not_not_intro q1)]
    simp only [zb_reaches ht6 p3 p7, i6, if_true, ix, zb_N181 ht6, Option.bind_some, zb_bz]
  have mg : F_Mo_read (zb_n t) x2 s = if o < 0 then some (-9223372036854775808 : Int64) else if ¬ (0 ≤ x2.toInt ∧ x2.toInt < n) then some (-9223372036854775808 : Int64) else if sv_ib ((80 : Int32) * zb_n t + x2) 480 = true then some (s.2.1 241 ((80 : Int32) * zb_n t + x2).toNatClampNeg) else none := by
    simp only [F_Mo_read, zb_h_tape, Option.bind_some, zb_bz]
    rw [if_neg (not_not_intro q1)]
    simp only [i6, if_true, ix, zb_isnL p8 (show n ≤ 1000 by omega), Option.bind_some, zb_bz, p6, o1]
  rw [t1] at xg
  by_cases w2 : 0 ≤ x2.toInt ∧ x2.toInt < n
  rotate_left
  · refine both _ (by rw [xg, if_pos (by omega)]) ?_
    rw [mg]
    by_cases w : o < 0
    · rw [if_pos w]
    · rw [if_neg w, if_pos w2]
  rw [if_neg (by omega)] at xg
  have ho : ¬ o < 0 := fun z => by have := p4 (by omega); omega
  rw [if_neg ho, if_neg (not_not_intro w2)] at mg
  obtain ⟨i, hi, rfl⟩ := zb_an3 w2
  rw [zb_n_ix (by omega), if_pos (by rw [zb_ib_n (by omega)]; omega)] at xg
  rw [show (80 : Int32) * zb_n t + zb_n i = zb_n (80 * t + i) by rw [show (80 : Int32) = zb_n 80 from rfl, zb_n_mul, zb_n_add], zb_n_ix (by omega), if_pos (by rw [zb_ib_n (by omega)]; omega), ← p9 i (by omega)] at mg
  exact both _ xg mg
theorem zb_shift2 {t b m : Nat} (ht : t < 6) (hb : b + m ≤ 80) (s0 : sv_S) : zb_W (F_Mo_shift_b141 ss_F (zb_n t) (zb_n b) (zb_n m) (0 : Int32) s0) (fun r => r.1 = zb_n m ∧ r.2.1 = s0.1 ∧ r.2.2.2 = s0.2.2 ∧ (∀ k, k < m → r.2.2.1 241 (80 * t + b + k) = s0.2.1 242 k) ∧ ∀ a j, ¬ (a = 241 ∧ 80 * t + b ≤ j ∧ j < 80 * t + b + m) → r.2.2.1 a j = s0.2.1 a j) := by
  refine zb_for (fun n k u => F_Mo_shift_b141 n (zb_n t) (zb_n b) (zb_n m) (zb_n k) u) m (fun k u => u.1 = s0.1 ∧ u.2.2 = s0.2.2 ∧ (∀ i, i < k → u.2.1 241 (80 * t + b + i) = s0.2.1 242 i) ∧ ∀ a j, ¬ (a = 241 ∧ 80 * t + b ≤ j ∧ j < 80 * t + b + m) → u.2.1 a j = s0.2.1 a j) ?_ ?_ ss_F 0 s0 (by omega) (by unfold ss_F; omega) ⟨rfl, rfl, fun i hi => absurd hi (by omega), fun _ _ _ => rfl⟩
  · intro n u hu
    simp only [F_Mo_shift_b141]
    exact zb_Wpos (Int32.le_refl _) (zb_Wsome ⟨rfl, hu⟩)
  · intro n k u hk hu ih
    obtain ⟨e1, e2, e3, e4⟩ := hu
    simp only [F_Mo_shift_b141]
    rw [show (80 : Int32) * zb_n t + zb_n b + zb_n k = zb_n (80 * t + b + k) by rw [show (80 : Int32) = zb_n 80 from rfl, zb_n_mul, zb_n_add, zb_n_add]]
    refine zb_Wneg (by rw [zb_n_le (by omega) (by omega)]; omega) ?_
    refine zb_Wpos (by rw [zb_ib_n (by omega)]; omega) (zb_Wpos (by rw [zb_ib_n (by omega)]; omega) (zb_Wlet (zb_Wlet ?_)))
    rw [zb_n_ix (by omega), zb_n_ix (by omega), show zb_n k + (1 : Int32) = zb_n (k + 1) from zb_n_add k 1]
    refine ih _ ⟨e1, e2, fun i hi => ?_, fun a j ha => ?_⟩
    · by_cases e : i = k
      · subst e; rw [zb_setL_eq]; exact e4 _ _ (by omega)
      · rw [zb_setL_ne (by omega)]; exact e3 i (by omega)
    · rw [zb_setL_ne (fun z => ha ⟨z.1, by omega, by omega⟩)]; exact e4 a j ha
theorem zb_shift1 {t a t' b m : Nat} (ht : t < 6) (ht' : t' < 6) (ha : a + m ≤ 80) (hb : b + m ≤ 80) (s0 : sv_S) : zb_W (F_Mo_shift_b104 ss_F (zb_n t) (zb_n a) (zb_n t') (zb_n b) (zb_n m) (0 : Int32) s0) (fun r => r.1 = zb_n m ∧ r.2.1 = s0.1 ∧ r.2.2.2 = s0.2.2 ∧ (∀ k, k < m → r.2.2.1 241 (80 * t' + b + k) = s0.2.1 241 (80 * t + a + k)) ∧ ∀ c j, c ≠ 242 → ¬ (c = 241 ∧ 80 * t' + b ≤ j ∧ j < 80 * t' + b + m) → r.2.2.1 c j = s0.2.1 c j) := by
  refine zb_for (fun n k u => F_Mo_shift_b104 n (zb_n t) (zb_n a) (zb_n t') (zb_n b) (zb_n m) (zb_n k) u) m (fun k u => u.1 = s0.1 ∧ u.2.2 = s0.2.2 ∧ (∀ i, i < k → u.2.1 242 i = s0.2.1 241 (80 * t + a + i)) ∧ ∀ c j, c ≠ 242 → u.2.1 c j = s0.2.1 c j) ?_ ?_ ss_F 0 s0 (by omega) (by unfold ss_F; omega) ⟨rfl, rfl, fun i hi => absurd hi (by omega), fun _ _ _ => rfl⟩
  · intro n u hu
    obtain ⟨e1, e2, e3, e4⟩ := hu
    simp only [F_Mo_shift_b104]
    refine zb_Wpos (Int32.le_refl _) (zb_Wmono (zb_shift2 ht' hb u) (fun r hr => ?_))
    obtain ⟨r1, r2, r3, r4, r5⟩ := hr
    exact ⟨r1, r2.trans e1, r3.trans e2, fun k hk => (r4 k hk).trans (e3 k hk), fun c j h1 h2 => (r5 c j h2).trans (e4 c j h1)⟩
  · intro n k u hk hu ih
    obtain ⟨e1, e2, e3, e4⟩ := hu
    simp only [F_Mo_shift_b104]
    rw [show (80 : Int32) * zb_n t + zb_n a + zb_n k = zb_n (80 * t + a + k) by rw [show (80 : Int32) = zb_n 80 from rfl, zb_n_mul, zb_n_add, zb_n_add]]
    refine zb_Wneg (by rw [zb_n_le (by omega) (by omega)]; omega) ?_
    refine zb_Wpos (by rw [zb_ib_n (by omega)]; omega) (zb_Wpos (by rw [zb_ib_n (by omega)]; omega) (zb_Wlet (zb_Wlet ?_)))
    rw [zb_n_ix (by omega), zb_n_ix (by omega), show zb_n k + (1 : Int32) = zb_n (k + 1) from zb_n_add k 1]
    refine ih _ ⟨e1, e2, fun i hi => ?_, fun c j hc => ?_⟩
    · by_cases e : i = k
      · subst e; rw [zb_setL_eq]; exact e4 _ _ (by omega)
      · rw [zb_setL_ne (by omega)]; exact e3 i (by omega)
    · rw [zb_setL_ne (fun z => hc z.1)]; exact e4 c j hc
theorem zb_c_shift (h : zb_J s) : zb_m11 (F_X_shift x1 x2 x3 x4 x5 s) (F_Mo_shift x1 x2 x3 x4 x5) s := by
  obtain ⟨N, A, B, M, O, K, LO, LD, LE, td, Q, R, T, TK, W, WK, Z, ZK, h⟩ := h
  have hj := zb_J_of h
  have no : ∀ v : Int32, F_X_shift x1 x2 x3 x4 x5 s = some (v, s) → F_Mo_shift x1 x2 x3 x4 x5 s = some (v, s) → zb_m11 (F_X_shift x1 x2 x3 x4 x5 s) (F_Mo_shift x1 x2 x3 x4 x5) s := fun v a b => zb_m11_no hj a b
  by_cases q1 : 0 ≤ x1.toInt ∧ x1.toInt ≤ 5
  rotate_left
  · exact no (-1 : Int32) (by simp only [F_X_shift, zb_g_tape, Option.bind_some, zb_bz]; rw [if_pos q1]) (by simp only [F_Mo_shift, zb_h_tape, Option.bind_some, zb_bz]; rw [if_pos q1])
  by_cases q2 : 0 ≤ x3.toInt ∧ x3.toInt ≤ 5
  rotate_left
  · exact no (-1 : Int32) (by simp only [F_X_shift, zb_g_tape, Option.bind_some, zb_bz]; rw [if_neg (not_not_intro q1), if_pos q2]) (by simp only [F_Mo_shift, zb_h_tape, Option.bind_some, zb_bz]; rw [if_neg (not_not_intro q1), if_pos q2])
  obtain ⟨t, ht, rfl⟩ := zb_an2 q1
  obtain ⟨t', ht', rfl⟩ := zb_an2 q2
  have ht6 : t < 6 := by omega
  have ht6' : t' < 6 := by omega
  have i6 := zb_ibn6 ht6
  have i6' := zb_ibn6 ht6'
  have ix : (zb_n t).toNatClampNeg = t := zb_n_ix (by omega)
  have ix' : (zb_n t').toNatClampNeg = t' := zb_n_ix (by omega)
  obtain ⟨o, n, p1, p2, p3, p4, p5, p6, p7, p8, p9⟩ := h.2.2.2.1.2.2.1 t ht6
  obtain ⟨o', n', r1, r2, r3, r4, r5, r6, r7, r8, r9⟩ := h.2.2.2.1.2.2.1 t' ht6'
  have eo : (zb_i o = zb_i (-1)) = (o = -1) := zb_i_eq (by omega) (by omega) (by omega) (by omega)
  have eo' : (zb_i o' = zb_i (-1)) = (o' = -1) := zb_i_eq (by omega) (by omega) (by omega) (by omega)
  have eoo : (zb_i o = zb_i o') = (o = o') := zb_i_eq (by omega) (by omega) (by omega) (by omega)
  have o1 := zb_sg1 (x := o) (by omega) (by omega)
  have o2 := zb_sg2 (x := o') (by omega) (by omega)
  have xg : F_X_shift (zb_n t) x2 (zb_n t') x4 x5 s = if o = -1 then some ((-11 : Int32), s) else if o' = -1 then some ((-11 : Int32), s) else if o = o' then (if ¬ (0 ≤ x2.toInt ∧ 0 ≤ x5.toInt ∧ x2.toInt + x5.toInt ≤ n) then some ((-13 : Int32), s) else if ¬ (0 ≤ x4.toInt ∧ 0 ≤ x5.toInt ∧ x4.toInt + x5.toInt ≤ n') then some ((-13 : Int32), s) else if sv_cpb x2 x4 x5 80 80 = true then some (x5, ss_cpyL s (181 + t) (181 + t') x2.toNatClampNeg x4.toNatClampNeg x5.toNatClampNeg) else none) else some ((-12 : Int32), s) := by
    simp only [F_X_shift, zb_g_tape, Option.bind_some, zb_bz]
    rw [if_neg (not_not_intro q1), if_neg (not_not_intro q2)]
    simp only [i6, i6', if_true, ix, ix', p5, r5, zb_m1, eo, eo', eoo, zb_reaches ht6 p3 p7, zb_reaches ht6' r3 r7, zb_N181 ht6, zb_N181 ht6', Option.bind_some, zb_bz]
    rfl
  have z2 : (x2 < (0 : Int32)) = (x2.toInt < 0) := by rw [show (0 : Int32) = zb_n 0 from rfl]; exact zb_c_ltn (by omega)
  have z4 : (x4 < (0 : Int32)) = (x4.toInt < 0) := by rw [show (0 : Int32) = zb_n 0 from rfl]; exact zb_c_ltn (by omega)
  have z5 : (x5 < (0 : Int32)) = (x5.toInt < 0) := by rw [show (0 : Int32) = zb_n 0 from rfl]; exact zb_c_ltn (by omega)
  have mg : ∀ u : sv_S, u.1 = s.1 → F_Mo_shift (zb_n t) x2 (zb_n t') x4 x5 u = if o < 0 then some ((-11 : Int32), u) else if 0 ≤ o' then (if o = o' then (if x5.toInt < 0 then some ((-13 : Int32), u) else if x2.toInt < 0 then some ((-13 : Int32), u) else if x4.toInt < 0 then some ((-13 : Int32), u) else if zb_n n - x5 < x2 then some ((-13 : Int32), u) else if x4 ≤ zb_n n' - x5 then F_Mo_shift_b104 ss_F (zb_n t) x2 (zb_n t') x4 x5 (0 : Int32) u else some ((-13 : Int32), u)) else some ((-12 : Int32), u)) else some ((-11 : Int32), u) := by
    intro u hu
    simp only [F_Mo_shift, zb_h_tape, Option.bind_some, zb_bz]
    rw [if_neg (not_not_intro q1), if_neg (not_not_intro q2)]
    simp only [i6, i6', if_true, ix, ix', hu, p6, r6, p8, r8, o1, o2, eoo, z2, z4, z5]
  by_cases w1 : o = -1
  · exact no _ (by rw [xg, if_pos w1]) (by rw [mg s rfl, if_pos (by omega)])
  rw [if_neg w1] at xg
  simp only [if_neg (show ¬ o < 0 by omega)] at mg
  by_cases w2 : o' = -1
  · exact no _ (by rw [xg, if_pos w2]) (by rw [mg s rfl, if_neg (by omega)])
  rw [if_neg w2] at xg
  simp only [if_pos (show 0 ≤ o' by omega)] at mg
  by_cases w3 : o = o'
  rotate_left
  · exact no _ (by rw [xg, if_neg w3]) (by rw [mg s rfl, if_neg w3])
  rw [if_pos w3] at xg
  simp only [if_pos w3] at mg
  have b5 := Int32.toInt_lt x5
  have b2 := Int32.toInt_lt x2
  have b4 := Int32.toInt_lt x4
  have mg2 : ∀ u : sv_S, u.1 = s.1 → F_Mo_shift (zb_n t) x2 (zb_n t') x4 x5 u = if ¬ (0 ≤ x2.toInt ∧ 0 ≤ x5.toInt ∧ x2.toInt + x5.toInt ≤ n) then some ((-13 : Int32), u) else if ¬ (0 ≤ x4.toInt ∧ 0 ≤ x5.toInt ∧ x4.toInt + x5.toInt ≤ n') then some ((-13 : Int32), u) else F_Mo_shift_b104 ss_F (zb_n t) x2 (zb_n t') x4 x5 (0 : Int32) u := by
    intro u hu
    rw [mg u hu]
    by_cases g1 : x5.toInt < 0
    · rw [if_pos g1, if_pos (by omega)]
    rw [if_neg g1]
    by_cases g2 : x2.toInt < 0
    · rw [if_pos g2, if_pos (by omega)]
    rw [if_neg g2]
    have e1 : (zb_n n - x5 < x2) = ((n : Int) - x5.toInt < x2.toInt) := by
      conv => lhs; rw [zb_i_of x5, zb_i_of x2, zb_n_i, zb_i_sub]
      exact zb_i_lt (by omega) (by omega) (by omega) (by omega)
    have e2 : ¬ x4.toInt < 0 → (x4 ≤ zb_n n' - x5) = (x4.toInt ≤ (n' : Int) - x5.toInt) := fun g => by
      conv => lhs; rw [zb_i_of x5, zb_i_of x4, zb_n_i, zb_i_sub]
      exact zb_i_le (by omega) (by omega) (by omega) (by omega)
    by_cases g3 : x4.toInt < 0
    · rw [if_pos g3]
      by_cases g : 0 ≤ x2.toInt ∧ 0 ≤ x5.toInt ∧ x2.toInt + x5.toInt ≤ n
      · rw [if_neg (not_not_intro g), if_pos (by omega)]
      · rw [if_pos g]
    rw [if_neg g3]
    simp only [e1, e2 g3]
    by_cases g4 : (n : Int) - x5.toInt < x2.toInt
    · rw [if_pos g4, if_pos (by omega)]
    rw [if_neg g4, if_neg (show ¬ ¬ (0 ≤ x2.toInt ∧ 0 ≤ x5.toInt ∧ x2.toInt + x5.toInt ≤ n) by omega)]
    by_cases g5 : x4.toInt ≤ (n' : Int) - x5.toInt
    · rw [if_pos g5, if_neg (by omega)]
    · rw [if_neg g5, if_pos (by omega)]
  by_cases g1 : 0 ≤ x2.toInt ∧ 0 ≤ x5.toInt ∧ x2.toInt + x5.toInt ≤ n
  rotate_left
  · exact no _ (by rw [xg, if_pos g1]) (by rw [mg2 s rfl, if_pos g1])
  by_cases g2 : 0 ≤ x4.toInt ∧ 0 ≤ x5.toInt ∧ x4.toInt + x5.toInt ≤ n'
  rotate_left
  · exact no _ (by rw [xg, if_neg (not_not_intro g1), if_pos g2]) (by rw [mg2 s rfl, if_neg (not_not_intro g1), if_pos g2])
  rw [if_neg (not_not_intro g1), if_neg (not_not_intro g2)] at xg
  simp only [if_neg (not_not_intro g1), if_neg (not_not_intro g2)] at mg2
  obtain ⟨a, ha, e2⟩ : ∃ a : Nat, x2.toInt = a ∧ x2 = zb_n a := ⟨x2.toInt.toNat, by omega, zb_an g1.1⟩
  obtain ⟨b, hb, e4⟩ : ∃ a : Nat, x4.toInt = a ∧ x4 = zb_n a := ⟨x4.toInt.toNat, by omega, zb_an g2.1⟩
  obtain ⟨m, hm, e5⟩ : ∃ a : Nat, x5.toInt = a ∧ x5 = zb_n a := ⟨x5.toInt.toNat, by omega, zb_an g1.2.1⟩
  rw [ha, hm] at g1
  rw [hb, hm] at g2
  subst e2 e4 e5
  have ia : (zb_n a).toNatClampNeg = a := zb_n_ix (by omega)
  have ib : (zb_n b).toNatClampNeg = b := zb_n_ix (by omega)
  have im : (zb_n m).toNatClampNeg = m := zb_n_ix (by omega)
  unfold zb_m11
  rw [xg, ia, ib, im]
  refine zb_Wpos ?_ (zb_Wsome ⟨⟨fun k => rfl, rfl⟩, ?_⟩)
  · unfold sv_cpb
    rw [ia, ib, im, decide_eq_true_eq, z2, z4, z5]
    omega
  dsimp only
  rw [mg2 (ss_cpyL s (181 + t) (181 + t') a b m) rfl]
  refine zb_Wmono (zb_shift1 ht6 ht6' (a := a) (b := b) (m := m) (by omega) (by omega) _) (fun q hq => ?_)
  obtain ⟨v1, v2, v3, v4, v5⟩ := hq
  refine ⟨v1, ?_, ⟨fun k => by rw [v2]; rfl, by rw [v3]; rfl⟩⟩
  refine zb_J_of (zb_J_L (L := []) h ⟨fun c k _ => by rw [v2]; rfl, by rw [v3]; rfl⟩ (by decide) (by decide) (fun j hj => ?_))
  have cp : ∀ c i, (ss_cpyL s (181 + t) (181 + t') a b m).2.1 c i = if c = 181 + t' ∧ b ≤ i ∧ i < b + m then s.2.1 (181 + t) (a + (i - b)) else s.2.1 c i := by
    intro c i
    show (if c = 181 + t' then va_cpy (s.2.1 (181 + t)) (s.2.1 (181 + t')) a b m i else s.2.1 c i) = _
    by_cases e : c = 181 + t'
    · rw [if_pos e]
      unfold va_cpy
      by_cases e2 : b ≤ i ∧ i < b + m
      · rw [if_pos e2, if_pos ⟨e, e2⟩]
      · rw [if_neg e2, if_neg (fun z => e2 z.2), e]
    · rw [if_neg e, if_neg (fun z => e z.1)]
  obtain ⟨o3, n3, f1, f2, f3, f4, f5, f6, f7, f8, f9⟩ := h.2.2.2.1.2.2.1 j hj
  refine ⟨o3, n3, f1, f2, f3, f4, by rw [v2]; exact f5, by rw [v2]; exact f6, by rw [v2]; exact f7, by rw [v2]; exact f8, fun i hi => ?_⟩
  rw [v5 (181 + j) i (by omega) (by omega), cp]
  by_cases e : j = t' ∧ b ≤ i ∧ i < b + m
  · obtain ⟨rfl, e1, e2⟩ := e
    rw [if_pos ⟨rfl, e1, e2⟩]
    have := v4 (i - b) (by omega)
    rw [show 80 * j + b + (i - b) = 80 * j + i by omega, cp, if_neg (by omega)] at this
    rw [this, p9 _ (by omega), show 80 * t + (a + (i - b)) = 80 * t + a + (i - b) by omega]
  · rw [if_neg (by omega), v5 241 _ (by omega) (by omega), cp, if_neg (by omega)]
    exact f9 i hi
end TPE
