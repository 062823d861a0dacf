/-! line, feed -/
section TXC
variable {t t' : Nat → Int32} {n : Nat}
theorem zb_t_num (h : ∀ a, zb_nc t n a = zb_nc t' n a) : zb_num t n = zb_num t' n := by
  funext k
  induction k with
  | zero => rfl
  | succ k ih => funext a v; simp only [zb_num, h, ih]
theorem zb_t_tnu (h : ∀ a, zb_nc t n a = zb_nc t' n a) : zb_tnu t n = zb_tnu t' n := by
  funext s a; simp only [zb_tnu, h, zb_t_num h]
theorem zb_t_tst (h : ∀ a, zb_nc t n a = zb_nc t' n a) : zb_tst t n = zb_tst t' n := by
  funext a; simp only [zb_tst, h, zb_t_tnu h]
theorem zb_t_moL (h : ∀ a, zb_nc t n a = zb_nc t' n a) : zb_moL t n = zb_moL t' n := by
  funext sg st f k
  induction k with
  | zero => rfl
  | succ k ih => funext a l; simp only [zb_moL, h, ih]
theorem zb_t_mo (h : ∀ a, zb_nc t n a = zb_nc t' n a) : zb_mo t n = zb_mo t' n := by
  funext sg st f a; simp only [zb_mo, zb_t_moL h]
theorem zb_t_fac (h : ∀ a, zb_nc t n a = zb_nc t' n a) : zb_fac t n = zb_fac t' n := by
  funext k
  induction k with
  | zero => funext a; simp only [zb_fac, zb_t_tst h]
  | succ k ih => funext a; simp only [zb_fac, h, ih, zb_t_mo h, zb_t_tst h]
theorem zb_t_exp (h : ∀ a, zb_nc t n a = zb_nc t' n a) : zb_exp t n = zb_exp t' n := by
  funext a; simp only [zb_exp, zb_t_mo h, zb_t_fac h]
theorem zb_t_lk (h : ∀ a, zb_nc t n a = zb_nc t' n a) : ∀ (w : List Nat) (a : Nat), zb_lk t n a w = zb_lk t' n a w
  | [], _ => rfl
  | c :: w, a => by simp only [zb_lk, h, zb_t_lk h w]
theorem zb_t_wgo (h : ∀ a, zb_nc t n a = zb_nc t' n a) : ∀ (ws : List (List Nat)) (a i far : Nat), zb_wgo t n a ws i far = zb_wgo t' n a ws i far
  | [], _, _, _ => rfl
  | w :: ws, a, i, far => by simp only [zb_wgo, zb_t_lk h, zb_t_wgo h ws]
theorem zb_t_wd (h : ∀ a, zb_nc t n a = zb_nc t' n a) : zb_wd t n = zb_wd t' n := by
  funext a; simp only [zb_wd, zb_t_wgo h]
theorem zb_t_sp (h : ∀ a, zb_nc t n a = zb_nc t' n a) : zb_sp t n = zb_sp t' n := by
  funext f a; simp only [zb_sp, h]
theorem zb_t_nIn (h : ∀ a, zb_nc t n a = zb_nc t' n a) : zb_nIn t n = zb_nIn t' n := by
  funext k a; simp only [zb_nIn, h, zb_t_num h]
theorem zb_t_g2 (h : ∀ a, zb_nc t n a = zb_nc t' n a) : zb_g2 t n = zb_g2 t' n := by
  funext g a; simp only [zb_g2, zb_di1, h, zb_t_sp h]
theorem zb_t_good (h : ∀ a, zb_nc t n a = zb_nc t' n a) : zb_good t n = zb_good t' n := by
  funext a
  unfold zb_good
  rw [zb_t_sp h, zb_t_g2 h]
  unfold zb_di1
  rw [show zb_nc t n = zb_nc t' n from funext h]
theorem zb_t_most (h : ∀ a, zb_nc t n a = zb_nc t' n a) : zb_most t n = zb_most t' n := by
  funext a; simp only [zb_most, zb_di1, h, zb_t_sp h, zb_t_nIn h]
theorem zb_t_xp (h : ∀ a, zb_nc t n a = zb_nc t' n a) : zb_xp t n = zb_xp t' n := by
  funext tag a; simp only [zb_xp, zb_t_sp h, zb_t_exp h]
theorem zb_t_cl (h : ∀ a, zb_nc t n a = zb_nc t' n a) : zb_cl t n = zb_cl t' n := by
  funext a; simp only [zb_cl, zb_bw, zb_t_wd h, zb_t_good h, zb_t_most h, zb_t_xp h, zb_t_sp h, zb_t_nIn h]
theorem zb_t_cls (h : ∀ a, zb_nc t n a = zb_nc t' n a) : zb_cls t n = zb_cls t' n := by
  funext k
  induction k with
  | zero => rfl
  | succ k ih => funext a; simp only [zb_cls, h, zb_t_cl h, ih]
/-- a text is its bytes -/
theorem zb_cls_ext (h : ∀ i, i < n → t i = t' i) (k a : Nat) : zb_cls t n k a = zb_cls t' n k a := by
  have : ∀ a, zb_nc t n a = zb_nc t' n a := by
    intro a
    unfold zb_nc
    by_cases q : a < n
    · rw [if_pos q, if_pos q, h a q]
    · rw [if_neg q, if_neg q]
  rw [zb_t_cls this]
end TXC
section ANY
variable {N K td Q T W Z : Nat} {A B O ZK : Nat → Nat} {M LO LD : Nat → Int} {LE : Nat → List zb_EF} {R TK WK : Nat → Nat → Int} {s : sv_S}
variable {N' K' : Nat} {A' B' O' : Nat → Nat} {M' LO' LD' : Nat → Int} {LE' : Nat → List zb_EF} {L : List Nat} {u : sv_S}
theorem zb_MM_any (h : zb_MM N A B M O K LO LD LE td Q R T TK W WK Z ZK s) (hf : zb_fr L s u) (hL : ([187000, 187032, 205, 206, 207, 208, 209, 210, 211, 212, 213, 214, 187050, 222, 223, 224, 225, 226, 187063, 230, 231, 232, 233, 234, 187069, 235] : List Nat).all (fun x => !L.contains x) = true) (hr : zb_RM N' A' B' M' O' u) (hl : zb_LM K' LO' LD' LE' u) : zb_MM N' A' B' M' O' K' LO' LD' LE' td Q R T TK W WK Z ZK u := by
  obtain ⟨h1, h2, h3, h4, h5, h6, h7⟩ := h
  exact ⟨hr, hl, (hf.1 187 0 (zb_no_in hL (x := 187000) (by decide))).trans h3, zb_QM_fr2 h4 hf (zb_all_sub hL (by decide)), zb_row5_fx h5 hf.1 (zb_no_in hL (x := 187050) (by decide)) (fun f k => zb_five (P := fun f => L.contains (zb_rg (222 + f) k) = false) (zb_no_in hL (x := 222) (by decide)) (zb_no_in hL (x := 223) (by decide)) (zb_no_in hL (x := 224) (by decide)) (zb_no_in hL (x := 225) (by decide)) (zb_no_in hL (x := 226) (by decide)) f), zb_row5_fx h6 hf.1 (zb_no_in hL (x := 187063) (by decide)) (fun f k => zb_five (P := fun f => L.contains (zb_rg (230 + f) k) = false) (zb_no_in hL (x := 230) (by decide)) (zb_no_in hL (x := 231) (by decide)) (zb_no_in hL (x := 232) (by decide)) (zb_no_in hL (x := 233) (by decide)) (zb_no_in hL (x := 234) (by decide)) f), zb_row1_fx h7 hf.1 (zb_no_in hL (x := 187069) (by decide)) (fun k => zb_no_in hL (x := 235) (by decide))⟩
theorem zb_MX_any (hQ : Q ≤ 60) (h : zb_MX N A B M O K LO LD LE td Q R T TK W WK Z ZK s) (hf : ∀ c k, L.contains (zb_rg c k) = false → u.1 c k = s.1 c k) (hL : ([64009, 88004, 91, 151010, 152, 153, 154, 155, 156, 163013, 164, 165, 166, 167, 168, 163014, 169] : List Nat).all (fun x => !L.contains x) = true) (h25 : L.all (fun x => decide (25 ≤ x)) = true) (hr : zb_RX N' A' B' M' O' u) (hl : zb_LX K' LO' LD' LE' u) : zb_MX N' A' B' M' O' K' LO' LD' LE' td Q R T TK W WK Z ZK u := by
  obtain ⟨h1, h2, h3, h4, h5, h6, h7, h8⟩ := h
  have fv : zb_fr L s (u.1, s.2) := ⟨hf, rfl⟩
  have r3 := zb_SS_fr h3 fv h25
  have q5 := zb_QX_fx hQ h5 (zb_fr_fx fv) (zb_no_in hL (x := 88004) (by decide)) (zb_no_in hL (x := 91) (by decide))
  refine ⟨hr, hl, ?_, (hf 64 9 (zb_no_in hL (x := 64009) (by decide))).trans h4, ?_, zb_row5_fx h6 hf (zb_no_in hL (x := 151010) (by decide)) (fun f k => zb_five (P := fun f => L.contains (zb_rg (152 + f) k) = false) (zb_no_in hL (x := 152) (by decide)) (zb_no_in hL (x := 153) (by decide)) (zb_no_in hL (x := 154) (by decide)) (zb_no_in hL (x := 155) (by decide)) (zb_no_in hL (x := 156) (by decide)) f), zb_row5_fx h7 hf (zb_no_in hL (x := 163013) (by decide)) (fun f k => zb_five (P := fun f => L.contains (zb_rg (164 + f) k) = false) (zb_no_in hL (x := 164) (by decide)) (zb_no_in hL (x := 165) (by decide)) (zb_no_in hL (x := 166) (by decide)) (zb_no_in hL (x := 167) (by decide)) (zb_no_in hL (x := 168) (by decide)) f), zb_row1_fx h8 hf (zb_no_in hL (x := 163014) (by decide)) (fun k => zb_no_in hL (x := 169) (by decide))⟩
  · unfold zb_SS at r3 ⊢; exact r3
  · unfold zb_QX at q5 ⊢; exact q5
end ANY
section LIN
variable {N K td Q T W Z : Nat} {A B O ZK : Nat → Nat} {M LO LD : Nat → Int} {LE : Nat → List zb_EF} {R TK WK : Nat → Nat → Int} {s : sv_S}
variable {x1 x2 x3 x4 : Int32} {o a b : Nat} {m : Int}
def zb_ex {α : Type} (f : Nat → α) (N : Nat) (v : α) : Nat → α := fun l => if l = N then v else f l
theorem zb_ex_eq {α : Type} {f : Nat → α} {N : Nat} {v : α} : zb_ex f N v N = v := if_pos rfl
theorem zb_ex_lt {α : Type} {f : Nat → α} {N l : Nat} {v : α} (h : l < N) : zb_ex f N v l = f l := if_neg (by omega)
/-- more lines, shorter ways -/
theorem zb_D_more (hL : zb_RL N A B M O) (hL' : zb_RL (N + 1) (zb_ex A N a) (zb_ex B N b) (zb_ex M N m) (zb_ex O N o)) {x y : Nat} (hx : x < 16) (hy : y < 16) : zb_D (N + 1) (zb_ex A N a) (zb_ex B N b) (zb_ex M N m) (zb_ex O N o) (-1) x y ≤ zb_D N A B M O (-1) x y := by
  have g := zb_D_gr (O := O) hL.2.1 (-1)
  have g' := zb_D_gr (O := zb_ex O N o) hL'.2.1 (-1)
  refine g.2 _ ⟨g'.1.1, g'.1.2.1, fun l hl _ => ?_, g'.1.2.2.2⟩ x y hx hy
  have := g'.1.2.2.1 l (by omega) (by unfold zb_ow; exact decide_eq_true (Or.inl (by omega)))
  rw [zb_ex_lt hl, zb_ex_lt hl, zb_ex_lt hl] at this
  exact this
theorem zb_line_RL (hL : zb_RL N A B M O) (hN : N < 40) (ho : o < 6) (ha : a < 16) (hb : b < 16) (hab : a ≠ b) (hm : 1 ≤ m) (hm2 : m ≤ 200) : zb_RL (N + 1) (zb_ex A N a) (zb_ex B N b) (zb_ex M N m) (zb_ex O N o) := by
  refine ⟨by omega, fun l hl => ?_, fun l hl => ?_⟩
  · by_cases e : l = N
    · subst e; rw [zb_ex_eq, zb_ex_eq, zb_ex_eq]; exact ⟨ha, hb, hab, hm, hm2⟩
    · rw [zb_ex_lt (by omega), zb_ex_lt (by omega), zb_ex_lt (by omega)]; exact hL.2.1 l (by omega)
  · by_cases e : l = N
    · subst e; rw [zb_ex_eq]; exact ho
    · rw [zb_ex_lt (by omega)]; exact hL.2.2 l (by omega)
def zb_ZRX : List Nat := [65004, 66, 67, 68, 70]
def zb_ZRM : List Nat := [187001, 188, 189, 190, 191]
theorem zb_c_line (h : zb_J s) : zb_m11 (F_X_line x1 x2 x3 x4 s) (F_Mo_line x1 x2 x3 x4) s := by
  obtain ⟨N, A, B, M, O, K, LO, LD, LE, td, Q, R, T, TK, W, WK, Z, ZK, h⟩ := h
  have hj := zb_J_of h
  obtain ⟨hW, hM, hX, hO, hB⟩ := id h
  have hQ := hW.2.1
  have hL := zb_RM_RL hM.1
  have N40 := hL.1
  have z1 : (x4 < (1 : Int32)) = (x4.toInt < 1) := by rw [show (1 : Int32) = zb_n 1 from rfl]; exact zb_c_ltn (by omega)
  have z2 : (x4 ≤ (200 : Int32)) = (x4.toInt ≤ 200) := by rw [show (200 : Int32) = zb_n 200 from rfl]; exact zb_c_len (by omega)
  have t1 : (1 : Int32).toInt = 1 := by decide
  have t200 : (200 : Int32).toInt = 200 := by decide
  have e40 : ∀ u : sv_S, u.1 187 1 = zb_n N → (u.1 187 1 = (40 : Int32)) = (N = 40) := fun u hu => by rw [hu, show (40 : Int32) = zb_n 40 from rfl]; exact zb_n_eq (by omega) (by omega)
  have full : F_Ro_isFull s = some (zb_b (decide (¬ N < 40))) := by
    unfold F_Ro_isFull
    rw [hX.1.1, show (40 : Int32) = zb_n 40 from rfl]
    by_cases q : N < 40
    · rw [if_pos (by rw [zb_n_lt (by omega) (by omega)]; exact q), decide_eq_false (not_not_intro q)]; rfl
    · rw [if_neg (by rw [zb_n_lt (by omega) (by omega)]; exact q), decide_eq_true q]; rfl
  have xg : F_X_line x1 x2 x3 x4 s = if ¬ (0 ≤ x1.toInt ∧ x1.toInt ≤ 5) then some ((-1 : Int32), s) else if ¬ ((0 ≤ x2.toInt ∧ x2.toInt ≤ 15) ∧ (0 ≤ x3.toInt ∧ x3.toInt ≤ 15)) then some ((-1 : Int32), s) else if x2 = x3 then some ((-2 : Int32), s) else if x4.toInt < 1 then some ((-2 : Int32), s) else if x4.toInt ≤ 200 then (if ¬ ¬ N < 40 then (F_Ro_add x1 x2 x3 x4 s).bind fun r4 => some (r4.1, r4.2) else some ((-4 : Int32), s)) else some ((-2 : Int32), s) := by
    simp only [F_X_line, z1, z2, full, zb_g_owner, zb_g_stations, Option.bind_some, zb_bz]
  have mg : ∀ u, F_Mo_line x1 x2 x3 x4 u = if ¬ (0 ≤ x1.toInt ∧ x1.toInt ≤ 5) then some ((-1 : Int32), u) else if ¬ (0 ≤ x2.toInt ∧ x2.toInt ≤ 15) then some ((-1 : Int32), u) else if ¬ (0 ≤ x3.toInt ∧ x3.toInt ≤ 15) then some ((-1 : Int32), u) else if x2 = x3 then some ((-2 : Int32), u) else if ¬ (1 ≤ x4.toInt ∧ x4.toInt ≤ 200) then some ((-2 : Int32), u) else if (u.1 187 1) = (40 : Int32) then
    some ((-4 : Int32), u)
  else
  if sv_ib (u.1 187 1) 40 = true then
    ss_let (ss_setI u 188 (u.1 187 1).toNatClampNeg x1) fun s5 =>
    if sv_ib (s5.1 187 1) 40 = true then
      ss_let (ss_setI s5 189 (s5.1 187 1).toNatClampNeg x2) fun s6 =>
      if sv_ib (s6.1 187 1) 40 = true then
        ss_let (ss_setI s6 190 (s6.1 187 1).toNatClampNeg x3) fun s7 =>
        if sv_ib (s7.1 187 1) 40 = true then
          ss_let (ss_setI s7 191 (s7.1 187 1).toNatClampNeg x4) fun s8 =>
          ss_let (ss_setI s8 187 1 ((s8.1 187 1) + (1 : Int32))) fun s9 =>
          some ((s9.1 187 1) - (1 : Int32), s9)
        else none
      else none
    else none
  else none := by
    intro u
    simp only [F_Mo_line, zb_h_owner, zb_h_station, zb_h_inL, t1, t200, Option.bind_some, zb_bz]
  have no : ∀ v : Int32, F_X_line x1 x2 x3 x4 s = some (v, s) → F_Mo_line x1 x2 x3 x4 s = some (v, s) → zb_m11 (F_X_line x1 x2 x3 x4 s) (F_Mo_line x1 x2 x3 x4) s := fun v a b => zb_m11_no hj a b
  by_cases q1 : 0 ≤ x1.toInt ∧ x1.toInt ≤ 5
  rotate_left
  · exact no _ (by rw [xg, if_pos q1]) (by rw [mg, if_pos q1])
  rw [if_neg (not_not_intro q1)] at xg
  simp only [if_neg (not_not_intro q1)] at mg
  by_cases q2 : 0 ≤ x2.toInt ∧ x2.toInt ≤ 15
  rotate_left
  · exact no _ (by rw [xg, if_pos (fun z => q2 z.1)]) (by rw [mg, if_pos q2])
  simp only [if_neg (not_not_intro q2)] at mg
  by_cases q3 : 0 ≤ x3.toInt ∧ x3.toInt ≤ 15
  rotate_left
  · exact no _ (by rw [xg, if_pos (fun z => q3 z.2)]) (by rw [mg, if_pos q3])
  rw [if_neg (not_not_intro ⟨q2, q3⟩)] at xg
  simp only [if_neg (not_not_intro q3)] at mg
  by_cases q4 : x2 = x3
  · exact no _ (by rw [xg, if_pos q4]) (by rw [mg, if_pos q4])
  rw [if_neg q4] at xg
  simp only [if_neg q4] at mg
  by_cases q5 : 1 ≤ x4.toInt ∧ x4.toInt ≤ 200
  rotate_left
  · refine no (-2 : Int32) ?_ (by rw [mg, if_pos q5])
    rw [xg]
    by_cases w : x4.toInt < 1
    · rw [if_pos w]
    · rw [if_neg w, if_neg (by omega)]
  rw [if_neg (by omega), if_pos q5.2] at xg
  simp only [if_neg (not_not_intro q5)] at mg
  by_cases q6 : N < 40
  rotate_left
  · exact no _ (by rw [xg, if_neg (not_not_intro q6)]) (by rw [mg, if_pos (by rw [e40 s hM.1.2.1]; omega)])
  rw [if_pos (not_not_intro q6)] at xg
  obtain ⟨o, ho, rfl⟩ := zb_an2 q1
  obtain ⟨a, ha, rfl⟩ := zb_an2 q2
  obtain ⟨b, hb, rfl⟩ := zb_an2 q3
  obtain ⟨m, m1, m2, rfl⟩ := zb_ai q5
  have ne : a ≠ b := fun z => q4 (by rw [z])
  have hL' := zb_line_RL (o := o) (a := a) (b := b) (m := m) hL q6 (by omega) (by omega) (by omega) ne m1 m2
  have RX0 := zb_RX_congr (A' := zb_ex A N a) (B' := zb_ex B N b) (M' := zb_ex M N m) (O' := zb_ex O N o) hL.2.1 (fun l hl => ⟨(zb_ex_lt hl).symm, (zb_ex_lt hl).symm, (zb_ex_lt hl).symm, (zb_ex_lt hl).symm⟩) hX.1
  have ad := zb_Ro_add hL' RX0
  rw [zb_ex_eq, zb_ex_eq, zb_ex_eq, zb_ex_eq] at ad
  unfold zb_m11
  rw [xg]
  refine zb_Wbind2 ad (fun r hr => zb_Wsome ?_)
  obtain ⟨r1, r2, r3⟩ := hr
  have k1 : zb_keep s r.2 := zb_keep_fr r2 rfl
  refine ⟨k1, ?_⟩
  dsimp only
  have M1 := zb_MM_fr hM r2 (by decide)
  have e1 := M1.1.2.1
  rw [mg]
  refine zb_Wneg (by rw [e40 r.2 e1]; omega) ?_
  have iN : sv_ib (zb_n N) 40 = true := by rw [zb_ib_n (by omega)]; omega
  have s1 : ∀ (u : sv_S) (c k : Nat) (v : Int32), c ≠ 187 → u.1 187 1 = zb_n N → (ss_setI u c k v).1 187 1 = zb_n N := fun u c k v hc hu => (zb_set_ne (fun z => hc z.1.symm)).trans hu
  rw [e1]
  refine zb_Wpos iN (zb_Wlet ?_)
  rw [zb_n_ix (by omega)]
  have g5 := s1 r.2 188 N (zb_n o) (by omega) e1
  rw [g5]
  refine zb_Wpos iN (zb_Wlet ?_)
  rw [zb_n_ix (by omega)]
  have g6 := s1 _ 189 N (zb_n a) (by omega) g5
  rw [g6]
  refine zb_Wpos iN (zb_Wlet ?_)
  rw [zb_n_ix (by omega)]
  have g7 := s1 _ 190 N (zb_n b) (by omega) g6
  rw [g7]
  refine zb_Wpos iN (zb_Wlet (zb_Wlet ?_))
  rw [zb_n_ix (by omega)]
  have g8 := s1 _ 191 N (zb_i m) (by omega) g7
  rw [g8, show zb_n N + (1 : Int32) = zb_n (N + 1) from zb_n_add N 1, zb_set_eq, zb_sub1]
  generalize hu : ss_setI (ss_setI (ss_setI (ss_setI (ss_setI r.2 188 N (zb_n o)) 189 N (zb_n a)) 190 N (zb_n b)) 191 N (zb_i m)) 187 1 (zb_n (N + 1)) = u
  have fu : zb_fr zb_ZRM r.2 u := by rw [← hu]; exact zb_fr_set (zb_fr_set (zb_fr_set (zb_fr_set (zb_fr_set (zb_fr_refl _ _) rfl) rfl) rfl) rfl) rfl
  have RMu : zb_RM (N + 1) (zb_ex A N a) (zb_ex B N b) (zb_ex M N m) (zb_ex O N o) u := by
    refine ⟨by omega, by rw [← hu, zb_set_eq], fun l hl => ?_⟩
    by_cases e : l = N
    · subst e
      rw [zb_ex_eq, zb_ex_eq, zb_ex_eq, zb_ex_eq]
      refine ⟨?_, ?_, ?_, ?_, by omega, by omega, by omega, ne, m1, m2⟩
      · rw [← hu, zb_set_ne (by omega), zb_set_ne (by omega), zb_set_ne (by omega), zb_set_ne (by omega), zb_set_eq]
      · rw [← hu, zb_set_ne (by omega), zb_set_ne (by omega), zb_set_ne (by omega), zb_set_eq]
      · rw [← hu, zb_set_ne (by omega), zb_set_ne (by omega), zb_set_eq]
      · rw [← hu, zb_set_ne (by omega), zb_set_eq]
    · have hl' : l < N := by omega
      rw [zb_ex_lt hl', zb_ex_lt hl', zb_ex_lt hl', zb_ex_lt hl']
      obtain ⟨c1, c2, c3, c4, c5⟩ := M1.1.2.2 l hl'
      refine ⟨?_, ?_, ?_, ?_, c5⟩
      · rw [← hu, zb_set_ne (by omega), zb_set_ne (by omega), zb_set_ne (by omega), zb_set_ne (by omega), zb_set_ne (by omega)]; exact c1
      · rw [← hu, zb_set_ne (by omega), zb_set_ne (by omega), zb_set_ne (by omega), zb_set_ne (by omega), zb_set_ne (by omega)]; exact c2
      · rw [← hu, zb_set_ne (by omega), zb_set_ne (by omega), zb_set_ne (by omega), zb_set_ne (by omega), zb_set_ne (by omega)]; exact c3
      · rw [← hu, zb_set_ne (by omega), zb_set_ne (by omega), zb_set_ne (by omega), zb_set_ne (by omega), zb_set_ne (by omega)]; exact c4
  have X1 : zb_MX (N + 1) (zb_ex A N a) (zb_ex B N b) (zb_ex M N m) (zb_ex O N o) K LO LD LE td Q R T TK W WK Z ZK r.2 := zb_MX_any hQ hX r2.1 (by decide) (by decide) r3 (zb_LX_fr hX.2.1 r2 (by decide))
  have W1 : zb_MW (N + 1) (zb_ex A N a) (zb_ex B N b) (zb_ex M N m) (zb_ex O N o) K LO LD LE td Q R T TK W WK Z ZK := by
    refine ⟨hW.1, hW.2.1, hW.2.2.1, hW.2.2.2.1, hW.2.2.2.2.1, hW.2.2.2.2.2.1, hW.2.2.2.2.2.2.1, hW.2.2.2.2.2.2.2.1, fun z hz => ?_, hW.2.2.2.2.2.2.2.2.2⟩
    obtain ⟨c1, c2, c3⟩ := hW.2.2.2.2.2.2.2.2.1 z hz
    obtain ⟨_, _, d3, d4, _⟩ := hW.2.2.1 _ c1
    refine ⟨c1, c2, Int.lt_of_le_of_lt (zb_D_more hL hL' (by omega) (by omega)) c3⟩
  refine zb_Wsome ⟨r1.symm, zb_J_of ⟨W1, zb_MM_any M1 fu (by decide) RMu (zb_LM_fr M1.2.1 fu (by decide)), zb_MX_fr hQ X1 fu (by decide) (by decide), zb_Jo_fx (zb_Jo_fx hO (zb_fr_fx r2) (by decide)) (zb_fr_fx fu) (by decide), ?_⟩, zb_keep_trans k1 (zb_keep_fr fu rfl)⟩
  rw [fu.2, r2.2]; exact hB
end LIN
section FED
variable {N K td Q T W Z : Nat} {A B O ZK : Nat → Nat} {M LO LD : Nat → Int} {LE : Nat → List zb_EF} {R TK WK : Nat → Nat → Int} {s : sv_S}
variable {x1 x2 : Int32}
def zb_by (x y : Int32) : Int32 := (x >>> (((8 : Int32) * y) &&& 31)).toInt8.toInt32
theorem zb_append {m n : Nat} (hm : m + n ≤ 140) (e : s.1 77 3 = zb_n m) : zb_W (F_Lt_append x1 (zb_n n) s) (fun r => r.1 = zb_n (m + n) ∧ zb_fr [77003, 78] s r.2 ∧ r.2.1 77 3 = zb_n (m + n) ∧ (∀ i, i < m → r.2.1 78 i = s.1 78 i) ∧ ∀ i, i < n → r.2.1 78 (m + i) = zb_by x1 (zb_i ((n : Int) - 1 - i))) := by
  unfold F_Lt_append
  refine zb_Wlet ?_
  have lp := zb_for (Q := fun r => r.1 = zb_n (m + n) ∧ zb_fr [77003, 78] s r.2 ∧ r.2.1 77 3 = zb_n (m + n) ∧ (∀ i, i < m → r.2.1 78 i = s.1 78 i) ∧ ∀ i, i < n → r.2.1 78 (m + i) = zb_by x1 (zb_i ((n : Int) - 1 - i))) (fun f j u => F_Lt_append_b4 f x1 (zb_i ((n : Int) - 1 - j)) u) n (fun j u => zb_fr [77003, 78] s u ∧ u.1 77 3 = zb_n (m + j) ∧ (∀ i, i < m → u.1 78 i = s.1 78 i) ∧ ∀ i, i < j → u.1 78 (m + i) = zb_by x1 (zb_i ((n : Int) - 1 - i))) ?_ ?_ ss_F 0 s (by omega) (by unfold ss_F; omega) ⟨zb_fr_refl _ _, e, fun _ _ => rfl, fun i hi => absurd hi (by omega)⟩
  · rw [show zb_n n - (1 : Int32) = zb_i ((n : Int) - 1 - ((0 : Nat) : Int)) by rw [zb_n_i, show (1 : Int32) = zb_i 1 from zb_n_i 1, zb_i_sub]; congr 1; omega]
    exact lp
  · intro f u hu
    simp only [F_Lt_append_b4]
    refine zb_Wpos ?_ (zb_Wsome ⟨hu.2.1, hu⟩)
    rw [zb_sg1 (by omega) (by omega)]; omega
  · intro f j u hj hu ih
    obtain ⟨u1, u2, u3, u4⟩ := hu
    simp only [F_Lt_append_b4]
    refine zb_Wneg (by rw [zb_sg1 (by omega) (by omega)]; omega) (zb_Wlet ?_)
    rw [u2]
    refine zb_Wpos (by rw [zb_ib_n (by omega)]; omega) (zb_Wlet (zb_Wlet ?_))
    rw [zb_n_ix (by omega), show zb_n (m + j) + (1 : Int32) = zb_n (m + (j + 1)) from zb_n_add (m + j) 1, zb_m1, zb_i_add, show (n : Int) - 1 - (j : Int) + -1 = (n : Int) - 1 - ((j + 1 : Nat) : Int) by omega, Int8.toInt8_toInt32]
    refine ih _ ⟨zb_fr_set (zb_fr_set u1 rfl) rfl, by rw [zb_set_ne (by omega), zb_set_eq], fun i hi => ?_, fun i hi => ?_⟩
    · rw [zb_set_ne (by omega), zb_set_ne (by omega)]; exact u3 i hi
    · by_cases q : i = j
      · subst q; rw [zb_set_eq]; rfl
      · rw [zb_set_ne (by omega), zb_set_ne (by omega)]; exact u4 i (by omega)
theorem zb_feed_M {m n : Nat} (hm : m + n ≤ 140) (e : s.1 187 11 = zb_n m) : zb_W (F_Mo_feed_b32 ss_F x1 (zb_n n - (1 : Int32)) s) (fun r => r.1 = zb_n (m + n) ∧ zb_fr [187011, 197] s r.2 ∧ r.2.1 187 11 = zb_n (m + n) ∧ (∀ i, i < 2240 + m → r.2.1 197 i = s.1 197 i) ∧ ∀ i, i < n → r.2.1 197 (2240 + (m + i)) = zb_by x1 (zb_i ((n : Int) - 1 - i))) := by
  have lp := zb_for (Q := fun r => r.1 = zb_n (m + n) ∧ zb_fr [187011, 197] s r.2 ∧ r.2.1 187 11 = zb_n (m + n) ∧ (∀ i, i < 2240 + m → r.2.1 197 i = s.1 197 i) ∧ ∀ i, i < n → r.2.1 197 (2240 + (m + i)) = zb_by x1 (zb_i ((n : Int) - 1 - i))) (fun f j u => F_Mo_feed_b32 f x1 (zb_i ((n : Int) - 1 - j)) u) n (fun j u => zb_fr [187011, 197] s u ∧ u.1 187 11 = zb_n (m + j) ∧ (∀ i, i < 2240 + m → u.1 197 i = s.1 197 i) ∧ ∀ i, i < j → u.1 197 (2240 + (m + i)) = zb_by x1 (zb_i ((n : Int) - 1 - i))) ?_ ?_ ss_F 0 s (by omega) (by unfold ss_F; omega) ⟨zb_fr_refl _ _, e, fun _ _ => rfl, fun i hi => absurd hi (by omega)⟩
  · rw [show zb_n n - (1 : Int32) = zb_i ((n : Int) - 1 - ((0 : Nat) : Int)) by rw [zb_n_i, show (1 : Int32) = zb_i 1 from zb_n_i 1, zb_i_sub]; congr 1; omega]
    exact lp
  · intro f u hu
    simp only [F_Mo_feed_b32]
    refine zb_Wpos ?_ (zb_Wsome ⟨hu.2.1, hu⟩)
    rw [zb_sg1 (by omega) (by omega)]; omega
  · intro f j u hj hu ih
    obtain ⟨u1, u2, u3, u4⟩ := hu
    simp only [F_Mo_feed_b32]
    refine zb_Wneg (by rw [zb_sg1 (by omega) (by omega)]; omega) ?_
    rw [u2, show (2240 : Int32) + zb_n (m + j) = zb_n (2240 + (m + j)) from zb_n_add 2240 (m + j)]
    refine zb_Wpos (by rw [zb_ib_n (by omega)]; omega) (zb_Wlet (zb_Wlet (zb_Wlet ?_)))
    rw [zb_n_ix (by omega), zb_set_ne (by omega), u2, show zb_n (m + j) + (1 : Int32) = zb_n (m + (j + 1)) from zb_n_add (m + j) 1, zb_m1, zb_i_add, show (n : Int) - 1 - (j : Int) + -1 = (n : Int) - 1 - ((j + 1 : Nat) : Int) by omega]
    refine ih _ ⟨zb_fr_set (zb_fr_set u1 rfl) rfl, zb_set_eq, fun i hi => ?_, fun i hi => ?_⟩
    · rw [zb_set_ne (by omega), zb_set_ne (by omega)]; exact u3 i hi
    · rw [zb_set_ne (by omega)]
      by_cases q : i = j
      · subst q; rw [zb_set_eq]; rfl
      · rw [zb_set_ne (by omega)]; exact u4 i (by omega)
theorem zb_LM_low {L : List Nat} {u : sv_S} (h : zb_LM K LO LD LE s) (hf : zb_fr L s u) (hL : ([187010, 195, 196, 198] : List Nat).all (fun x => !L.contains x) = true) (hlow : ∀ j, j < 2240 → u.1 197 j = s.1 197 j) : zb_LM K LO LD LE u := by
  refine ⟨h.1, (hf.1 187 10 (zb_no_in hL (x := 187010) (by decide))).trans h.2.1, fun k hk => ?_⟩
  obtain ⟨a1, a2, a3, n, a4, a5, a6, a7⟩ := h.2.2 k hk
  have K16 := h.1
  have ex : ∀ j a, zb_cls (fun i => u.1 197 (140 * k + i)) n j a = zb_cls (fun i => s.1 197 (140 * k + i)) n j a := fun j a => zb_cls_ext (fun i hi => hlow _ (by omega)) j a
  exact ⟨a1, (hf.1 195 k (zb_no_in hL (x := 195) (by decide))).trans a2, (hf.1 196 k (zb_no_in hL (x := 196) (by decide))).trans a3, n, a4, (hf.1 198 k (zb_no_in hL (x := 198) (by decide))).trans a5, by rw [ex]; exact a6, by rw [ex]; exact a7⟩
theorem zb_c_feed (h : zb_J s) : zb_m11 (F_X_feed x1 x2 s) (F_Mo_feed x1 x2) s := by
  obtain ⟨N, A, B, M, O, K, LO, LD, LE, td, Q, R, T, TK, W, WK, Z, ZK, h⟩ := h
  have hj := zb_J_of h
  obtain ⟨hW, hM, hX, hO, hB⟩ := id h
  have hQ := hW.2.1
  obtain ⟨⟨m, m1, m2, m3, m4⟩, oA, oP, oE, oB⟩ := hO
  have z1 : (x2 < (0 : Int32)) = (x2.toInt < 0) := by rw [show (0 : Int32) = zb_n 0 from rfl]; exact zb_c_ltn (by omega)
  have z2 : (x2 ≤ (4 : Int32)) = (x2.toInt ≤ 4) := by rw [show (4 : Int32) = zb_n 4 from rfl]; exact zb_c_len (by omega)
  have t0 : (0 : Int32).toInt = 0 := by decide
  have t4 : (4 : Int32).toInt = 4 := by decide
  have no : ∀ v : Int32, F_X_feed x1 x2 s = some (v, s) → F_Mo_feed x1 x2 s = some (v, s) → zb_m11 (F_X_feed x1 x2 s) (F_Mo_feed x1 x2) s := fun v a b => zb_m11_no hj a b
  have mg : ∀ u, F_Mo_feed x1 x2 u = if ¬ (0 ≤ x2.toInt ∧ x2.toInt ≤ 4) then some ((-2 : Int32), u) else if u.1 187 11 + x2 ≤ (140 : Int32) then F_Mo_feed_b32 ss_F x1 (x2 - (1 : Int32)) u else some ((-4 : Int32), u) := by
    intro u
    simp only [F_Mo_feed, zb_h_inL, t0, t4, Option.bind_some, zb_bz]
    rfl
  by_cases q1 : 0 ≤ x2.toInt ∧ x2.toInt ≤ 4
  rotate_left
  · refine no (-2 : Int32) ?_ (by rw [mg, if_pos q1])
    simp only [F_X_feed, z1, z2]
    by_cases w : x2.toInt < 0
    · rw [if_pos w]
    · rw [if_neg w, if_neg (by omega)]
  simp only [if_neg (not_not_intro q1)] at mg
  have xg : F_X_feed x1 x2 s = (F_Lt_hasRoom x2 s).bind fun r1 => if r1 = 0 then some ((-4 : Int32), s) else (F_Lt_append x1 x2 s).bind fun r2 => some (r2.1, r2.2) := by
    simp only [F_X_feed, z1, z2]
    rw [if_neg (by omega), if_pos q1.2]
  obtain ⟨n, hn, rfl⟩ := zb_an2 q1
  have hn4 : n ≤ 4 := by omega
  have room : F_Lt_hasRoom (zb_n n) s = some (zb_b (decide (m + n ≤ 140))) := by
    unfold F_Lt_hasRoom
    rw [m2, zb_n_add, show (140 : Int32) = zb_n 140 from rfl]
    by_cases w : m + n ≤ 140
    · rw [if_neg (by rw [zb_n_lt (by omega) (by omega)]; omega), decide_eq_true w]; rfl
    · rw [if_pos (by rw [zb_n_lt (by omega) (by omega)]; omega), decide_eq_false w]; rfl
  rw [room, Option.bind_some] at xg
  have e140 : ∀ u : sv_S, u.1 187 11 = zb_n m → (u.1 187 11 + zb_n n ≤ (140 : Int32)) = (m + n ≤ 140) := fun u hu => by rw [hu, zb_n_add, show (140 : Int32) = zb_n 140 from rfl]; exact zb_n_le (by omega) (by omega)
  by_cases q2 : m + n ≤ 140
  rotate_left
  · refine no (-4 : Int32) (by rw [xg, if_pos (zb_bF q2)]) ?_
    rw [mg, if_neg (by rw [e140 s m3]; exact q2)]
  rw [if_neg (zb_bT q2)] at xg
  unfold zb_m11
  rw [xg]
  refine zb_Wbind2 (zb_append q2 m2) (fun r hr => zb_Wsome ?_)
  obtain ⟨r1, r2, r3, r4, r5⟩ := hr
  have k1 : zb_keep s r.2 := zb_keep_fr r2 rfl
  refine ⟨k1, ?_⟩
  dsimp only
  have M1 := zb_MM_fr hM r2 (by decide)
  have X1 := zb_MX_fr hQ hX r2 (by decide) (by decide)
  have g3 : r.2.1 187 11 = zb_n m := (r2.1 187 11 rfl).trans m3
  rw [mg]
  refine zb_Wpos (by rw [e140 _ g3]; exact q2) ?_
  refine zb_Wmono (zb_feed_M q2 g3) (fun q hq => ?_)
  obtain ⟨p1, p2, p3, p4, p5⟩ := hq
  refine ⟨p1.trans r1.symm, zb_J_of ⟨hW, zb_MM_any M1 p2 (by decide) (zb_RM_fr M1.1 p2 (by decide)) (zb_LM_low M1.2.1 p2 (by decide) (fun j hj => p4 j (by omega))), zb_MX_fr hQ X1 p2 (by decide) (by decide), ⟨⟨m + n, q2, ?_, p3, fun i hi => ?_⟩, zb_JA_fr (zb_JA_fr oA r2 (by decide)) p2 (by decide), zb_JP_fr (zb_JP_fr oP r2 (by decide)) p2 (by decide), zb_JE_fr (zb_JE_fr oE r2 (by decide)) p2 (by decide), zb_JB_fr (zb_JB_fr oB r2 (by decide)) p2 (by decide)⟩, ?_⟩, zb_keep_trans k1 (zb_keep_fr p2 rfl)⟩
  · rw [p2.1 77 3 rfl]; exact r3
  · rw [p2.1 78 i rfl]
    by_cases w : i < m
    · rw [r4 i w, p4 _ (by omega), r2.1 197 _ rfl]; exact m4 i w
    · have a := r5 (i - m) (by omega)
      have b := p5 (i - m) (by omega)
      rw [show m + (i - m) = i by omega] at a b
      rw [a, b]
  · rw [p2.2, r2.2]; exact hB
end FED
