/-! Ca_price -/
abbrev m_Ca_price : sv_M := (yX1_price, cX1_price, 6, none)
def t_Ca_price : List (Nat × Instr × Nat) := [(0, .aload_n 0, 1), (1, .iconst 0, 1), (2, .putfield 27, 3), (5, .iconst 0, 1), (6, .istore 4, 2), (8, .iload 4, 2), (10, .aload_n 0, 1), (11, .getfield 23, 3), (14, .getfield 31, 3), (17, .if_icmp .ge 72, 3), (20, .aload_n 0, 1), (21, .getfield 23, 3), (24, .iload 4, 2), (26, .invokevirtual 34, 3), (29, .astore 5, 2), (31, .aload_n 0, 1), (32, .getfield 11, 3), (35, .iload 4, 2), (37, .aload_n 0, 1), (38, .getfield 23, 3), (41, .aload 5, 2), (43, .aload 5, 2), (45, .getfield 38, 3), (48, .iload_n 1, 1), (49, .iload_n 2, 1), (50, .iload_n 3, 1), (51, .invokevirtual 43, 3), (54, .iastore, 1), (55, .aload_n 0, 1), (56, .getfield 11, 3), (59, .iload 4, 2), (61, .iaload, 1), (62, .ifCond .lt 21, 3), (65, .aload_n 0, 1), (66, .getfield 17, 3), (69, .aload_n 0, 1), (70, .dup, 1), (71, .getfield 27, 3), (74, .dup_x1, 1), (75, .iconst 1, 1), (76, .iadd, 1), (77, .putfield 27, 3), (80, .iload 4, 2), (82, .iastore, 1), (83, .iinc 4 1, 3), (86, .goto (-78), 3), (89, .return_, 1)]
theorem k_Ca_price : sv_tk m_Ca_price.2.1 t_Ca_price := by decide +kernel
theorem g_Ca_price : sv_G m_Ca_price 3 := ⟨by decide +kernel, sv_in 1055 (by decide +kernel) rfl, sv_in 99 (by decide +kernel) rfl, ⟨by decide, by decide⟩, by decide +kernel, by decide⟩
theorem in_Ca_price : Cond.instanceMethod m_Ca_price.1 ∈ sv_T := sv_in 1053 (by decide +kernel) rfl
theorem se_Ca_price : Cond.selects m_Ca_price.1.cls m_Ca_price.1 m_Ca_price.1 ∈ sv_T := sv_in 1054 (by decide +kernel) rfl
def F_Ca_price_b83 (kc8 : Int32 → Int32 → Int32 → Int32 → sv_S → Option (sv_S)) (x1 : Int32) (x2 : Int32) (x3 : Int32) (x4 : Int32) (s : sv_S) : Option (sv_S) :=
  ss_let (x4 + (1 : Int32)) fun v6 =>
  kc8 x1 x2 x3 v6 s
theorem V_Ca_price_b83 (E : sv_E) (d : Nat) (kc8 : Int32 → Int32 → Int32 → Int32 → sv_S → Option (sv_S)) (hc8 : ∀ (x1 : Int32) (x2 : Int32) (x3 : Int32) (x4 : Int32) (s : sv_S), sv_V E m_Ca_price (d + 3) ss_v 8 [(0, sv_r E 159), (1, .int x1), (2, .int x2), (3, .int x3), (4, .int x4)] [] (ss_e s) (kc8 x1 x2 x3 x4 s)) (x1 : Int32) (x2 : Int32) (x3 : Int32) (x4 : Int32) (s : sv_S) : sv_V E m_Ca_price (d + 3) ss_v 83 [(0, sv_r E 159), (1, .int x1), (2, .int x2), (3, .int x3), (4, .int x4)] [] (ss_e s) (F_Ca_price_b83 kc8 x1 x2 x3 x4 s) := by
  unfold F_Ca_price_b83
  refine ss_letr (fun v6 e_v6 => ?_)
  refine sv_iinc (pc := 83) (v := v6) (lv' := [(4, .int v6), (0, sv_r E 159), (1, .int x1), (2, .int x2), (3, .int x3)]) (sv_d k_Ca_price 44 rfl) (n := 4) rfl (by rw [e_v6]; rfl) (by decide) rfl ?_
  refine sv_goto (pc := 86) (tgt := 8) (sv_d k_Ca_price 45 rfl) (by decide) ?_
  exact sv_loc [1, 2, 3, 4, 0] rfl (hc8 x1 x2 x3 v6 s)
def F_Ca_price_b8 : Nat → Int32 → Int32 → Int32 → Int32 → sv_S → Option (sv_S)
  | 0 => fun _ _ _ _ _ => none
  | n + 1 => fun x1 x2 x3 x4 s =>
    if (s.1 88 4) ≤ x4 then
      some s
    else
    (F_Rs_row x4 s).bind fun r2 =>
    if ss_ok2 s r2 5 = true then
      (F_Rs_fee r2 (s.1 r2 5) x1 x2 x3 s).bind fun r4 =>
      if sv_ib x4 60 = true then
        ss_let (ss_setI r4.2 160 x4.toNatClampNeg r4.1) fun s5 =>
        if sv_ib x4 60 = true then
          if (s5.1 160 x4.toNatClampNeg) < 0 then
            F_Ca_price_b83 (F_Ca_price_b8  n) x1 x2 x3 x4 s5
          else
          ss_let (ss_setI s5 159 4 ((s5.1 159 4) + (1 : Int32))) fun s7 =>
          if sv_ib (s5.1 159 4) 60 = true then
            ss_let (ss_setI s7 161 (s5.1 159 4).toNatClampNeg x4) fun s8 =>
            F_Ca_price_b83 (F_Ca_price_b8  n) x1 x2 x3 x4 s8
          else none
        else none
      else none
    else none
theorem V_Ca_price_b8 (E : sv_E) (d : Nat) : ∀ (n : Nat) (x1 : Int32) (x2 : Int32) (x3 : Int32) (x4 : Int32) (s : sv_S), sv_V E m_Ca_price (d + 3) ss_v 8 [(0, sv_r E 159), (1, .int x1), (2, .int x2), (3, .int x3), (4, .int x4)] [] (ss_e s) (F_Ca_price_b8 n x1 x2 x3 x4 s) := by
  intro n
  induction n with
  | zero => intro x1 x2 x3 x4 s; exact sv_none
  | succ n ih =>
    intro x1 x2 x3 x4 s
    unfold F_Ca_price_b8
    refine sv_iload (pc := 8) 4 (sv_d k_Ca_price 5 rfl) rfl ?_
    refine sv_aload_n (pc := 10) 0 (sv_d k_Ca_price 6 rfl) rfl rfl ?_
    refine sv_getf (pc := 11) 0 (sv_d k_Ca_price 7 rfl) cf1 (by decide) w392 kd159 (ss_lt (by decide)) (lr_159_0 E _) ?_
    refine sv_getN (pc := 14) 4 (sv_d k_Ca_price 8 rfl) cf6 (by decide) w332 kd88 (ss_lt (by decide)) rfl ?_
    refine sv_icmp_ge (pc := 17) (tgt := 89) (sv_d k_Ca_price 9 rfl) (by decide) ?_ ?_
    · exact sv_retv (pc := 89) (sv_d k_Ca_price 46 rfl) rfl rfl
    · refine sv_aload_n (pc := 20) 0 (sv_d k_Ca_price 10 rfl) rfl rfl ?_
      refine sv_getf (pc := 21) 0 (sv_d k_Ca_price 11 rfl) cf1 (by decide) w392 kd159 (ss_lt (by decide)) (lr_159_0 E _) ?_
      refine sv_iload (pc := 24) 4 (sv_d k_Ca_price 12 rfl) rfl ?_
      refine sv_callV (pc := 26) (ψ := (ss_pq E s)) (As := [.int x4]) (rest := []) (c := 88) (sv_d k_Ca_price 13 rfl) g_Rs_row w1056 in_Rs_row se_Rs_row cf6 kd88 (ss_lt (by decide)) rfl (Nat.le_of_ble_eq_true rfl) (V_Rs_row E (d + 2) x4 s) (Nat.le_of_ble_eq_true rfl) rfl (fun r2 => ?_)
      show sv_V E _ _ _ 29 _ [sv_r E r2] (ss_e s) _
      refine ss_gd2 (fun h_g3 o_g3 l_g3 => ?_)
      refine sv_astore (pc := 29) (lv' := [(5, sv_r E r2), (0, sv_r E 159), (1, .int x1), (2, .int x2), (3, .int x3), (4, .int x4)]) (sv_d k_Ca_price 14 rfl) (by decide) rfl ?_
      refine sv_aload_n (pc := 31) 1 (sv_d k_Ca_price 15 rfl) rfl rfl ?_
      refine sv_getf (pc := 32) 1 (sv_d k_Ca_price 16 rfl) cf1 (by decide) w393 kd159 (ss_lt (by decide)) (lr_159_1 E _) ?_
      refine sv_iload (pc := 35) 5 (sv_d k_Ca_price 17 rfl) rfl ?_
      refine sv_aload_n (pc := 37) 1 (sv_d k_Ca_price 18 rfl) rfl rfl ?_
      refine sv_getf (pc := 38) 0 (sv_d k_Ca_price 19 rfl) cf1 (by decide) w392 kd159 (ss_lt (by decide)) (lr_159_0 E _) ?_
      refine sv_aload (pc := 41) 0 (sv_d k_Ca_price 20 rfl) rfl ?_
      refine sv_aload (pc := 43) 0 (sv_d k_Ca_price 21 rfl) rfl ?_
      refine sv_getN (pc := 45) 5 (sv_d k_Ca_price 22 rfl) cf5 (by decide) w281 h_g3 l_g3 rfl ?_
      refine sv_iload_n (pc := 48) 2 (sv_d k_Ca_price 23 rfl) rfl rfl ?_
      refine sv_iload_n (pc := 49) 3 (sv_d k_Ca_price 24 rfl) rfl rfl ?_
      refine sv_iload_n (pc := 50) 4 (sv_d k_Ca_price 25 rfl) rfl rfl ?_
      refine sv_callV (pc := 51) (ψ := ss_i) (As := [sv_r E r2, .int (s.1 r2 5), .int x1, .int x2, .int x3]) (rest := [.int x4, sv_r E 160]) (c := 88) (sv_d k_Ca_price 26 rfl) g_Rs_fee w1057 in_Rs_fee se_Rs_fee cf6 kd88 (ss_lt (by decide)) rfl (Nat.le_of_ble_eq_true rfl) (V_Rs_fee E (d + 0) r2 (s.1 r2 5) x1 x2 x3 s h_g3 o_g3 l_g3) (Nat.le_of_ble_eq_true rfl) rfl (fun r4 => ?_)
      show sv_V E _ _ _ 54 _ [.int r4.1, .int x4, sv_r E 160] (ss_e r4.2) _
      refine ss_iast (pc := 54) (n := 60) (sv_d k_Ca_price 27 rfl) kd160 (by decide) (ss_lt (by decide)) rfl (ss_lets (fun s5 e_s5 => ?_))
      refine sv_aload_n (pc := 55) 1 (sv_d k_Ca_price 28 rfl) rfl rfl ?_
      refine sv_getf (pc := 56) 1 (sv_d k_Ca_price 29 rfl) cf1 (by decide) w393 kd159 (ss_lt (by decide)) (lr_159_1 E _) ?_
      refine sv_iload (pc := 59) 5 (sv_d k_Ca_price 30 rfl) rfl ?_
      refine ss_iald (pc := 61) (n := 60) (sv_d k_Ca_price 31 rfl) kd160 (ss_lt (by decide)) rfl ?_
      refine sv_if_lt (pc := 62) (tgt := 83) (sv_d k_Ca_price 32 rfl) (by decide) ?_ ?_
      · exact sv_loc [1, 2, 3, 4, 5] rfl (V_Ca_price_b83 E d (F_Ca_price_b8  n) ih x1 x2 x3 x4 s5)
      · refine sv_aload_n (pc := 65) 1 (sv_d k_Ca_price 33 rfl) rfl rfl ?_
        refine sv_getf (pc := 66) 2 (sv_d k_Ca_price 34 rfl) cf1 (by decide) w395 kd159 (ss_lt (by decide)) (lr_159_2 E _) ?_
        refine sv_aload_n (pc := 69) 1 (sv_d k_Ca_price 35 rfl) rfl rfl ?_
        refine sv_dup (pc := 70) (sv_d k_Ca_price 36 rfl) rfl ?_
        refine sv_getf (pc := 71) 4 (sv_d k_Ca_price 37 rfl) cf1 (by decide) w397 kd159 (ss_lt (by decide)) rfl ?_
        refine sv_dup_x1 (pc := 74) (sv_d k_Ca_price 38 rfl) rfl rfl ?_
        refine sv_iconst (pc := 75) (v := (1 : Int32)) (sv_d k_Ca_price 39 rfl) (by decide) ?_
        refine sv_iadd (pc := 76) (sv_d k_Ca_price 40 rfl) ?_
        refine ss_putI (pc := 77) 4 (sv_d k_Ca_price 41 rfl) cf1 (by decide) rfl w397 kd159 (ss_lt (by decide)) rfl rfl (fun _ => rfl) (ss_lets (fun s7 e_s7 => ?_))
        refine sv_iload (pc := 80) 5 (sv_d k_Ca_price 42 rfl) rfl ?_
        refine ss_iast (pc := 82) (n := 60) (sv_d k_Ca_price 43 rfl) kd161 (by decide) (ss_lt (by decide)) rfl (ss_lets (fun s8 e_s8 => ?_))
        exact sv_loc [1, 2, 3, 4, 5] rfl (V_Ca_price_b83 E d (F_Ca_price_b8  n) ih x1 x2 x3 x4 s8)
def F_Ca_price (x1 : Int32) (x2 : Int32) (x3 : Int32) (s : sv_S) : Option (sv_S) :=
  ss_let (ss_setI s 159 4 (0 : Int32)) fun s1 =>
  F_Ca_price_b8 ss_F x1 x2 x3 (0 : Int32) s1
theorem V_Ca_price (E : sv_E) (d : Nat) (x1 : Int32) (x2 : Int32) (x3 : Int32) (s : sv_S) : sv_V E m_Ca_price (d + 3) ss_v 0 (lv_args 0 [sv_r E 159, .int x1, .int x2, .int x3]) [] (ss_e s) (F_Ca_price x1 x2 x3 s) := by
  show sv_V E m_Ca_price (d + 3) ss_v 0 [(0, sv_r E 159), (1, .int x1), (2, .int x2), (3, .int x3)] [] (ss_e s) _
  unfold F_Ca_price
  refine sv_aload_n (pc := 0) 0 (sv_d k_Ca_price 0 rfl) rfl rfl ?_
  refine sv_iconst (pc := 1) (v := (0 : Int32)) (sv_d k_Ca_price 1 rfl) (by decide) ?_
  refine ss_putI (pc := 2) 4 (sv_d k_Ca_price 2 rfl) cf1 (by decide) rfl w397 kd159 (ss_lt (by decide)) rfl rfl (fun _ => rfl) (ss_lets (fun s1 e_s1 => ?_))
  refine sv_iconst (pc := 5) (v := (0 : Int32)) (sv_d k_Ca_price 3 rfl) (by decide) ?_
  refine sv_istore (pc := 6) (lv' := [(4, .int (0 : Int32)), (0, sv_r E 159), (1, .int x1), (2, .int x2), (3, .int x3)]) (sv_d k_Ca_price 4 rfl) (by decide) rfl ?_
  exact sv_loc [1, 2, 3, 4, 0] rfl (V_Ca_price_b8 E d ss_F x1 x2 x3 (0 : Int32) s1)
/-! Ca_addLeg -/
abbrev m_Ca_addLeg : sv_M := (yX1_addLeg, cX1_addLeg, 8, (some .boolean))
def t_Ca_addLeg : List (Nat × Instr × Nat) := [(0, .iload_n 1, 1), (1, .bipush 16, 2), (3, .imul, 1), (4, .istore_n 2, 1), (5, .iload_n 2, 1), (6, .bipush 16, 2), (8, .isub, 1), (9, .istore_n 3, 1), (10, .aload_n 0, 1), (11, .getfield 20, 3), (14, .iload_n 3, 1), (15, .aload_n 0, 1), (16, .getfield 20, 3), (19, .iload_n 2, 1), (20, .bipush 16, 2), (22, .invokestatic 55, 3), (25, .iconst 0, 1), (26, .istore 4, 2), (28, .iconst 0, 1), (29, .istore 5, 2), (31, .iload 5, 2), (33, .aload_n 0, 1), (34, .getfield 27, 3), (37, .if_icmp .ge 86, 3), (40, .aload_n 0, 1), (41, .getfield 23, 3), (44, .aload_n 0, 1), (45, .getfield 17, 3), (48, .iload 5, 2), (50, .iaload, 1), (51, .invokevirtual 34, 3), (54, .astore 6, 2), (56, .aload_n 0, 1), (57, .getfield 20, 3), (60, .iload_n 3, 1), (61, .aload 6, 2), (63, .getfield 61, 3), (66, .iadd, 1), (67, .iaload, 1), (68, .aload_n 0, 1), (69, .getfield 11, 3), (72, .aload_n 0, 1), (73, .getfield 17, 3), (76, .iload 5, 2), (78, .iaload, 1), (79, .iaload, 1), (80, .iadd, 1), (81, .istore 7, 2), (83, .iload 7, 2), (85, .aload_n 0, 1), (86, .getfield 20, 3), (89, .iload_n 2, 1), (90, .aload 6, 2), (92, .getfield 64, 3), (95, .iadd, 1), (96, .iaload, 1), (97, .if_icmp .ge 20, 3), (100, .aload_n 0, 1), (101, .getfield 20, 3), (104, .iload_n 2, 1), (105, .aload 6, 2), (107, .getfield 64, 3), (110, .iadd, 1), (111, .iload 7, 2), (113, .iastore, 1), (114, .iconst 1, 1), (115, .istore 4, 2), (117, .iinc 5 1, 3), (120, .goto (-89), 3), (123, .iload 4, 2), (125, .ireturn, 1)]
theorem k_Ca_addLeg : sv_tk m_Ca_addLeg.2.1 t_Ca_addLeg := by decide +kernel
theorem g_Ca_addLeg : sv_G m_Ca_addLeg 1 := ⟨by decide +kernel, sv_in 1066 (by decide +kernel) rfl, sv_in 99 (by decide +kernel) rfl, ⟨by decide, by decide⟩, by decide +kernel, by decide⟩
theorem in_Ca_addLeg : Cond.instanceMethod m_Ca_addLeg.1 ∈ sv_T := sv_in 1065 (by decide +kernel) rfl
theorem se_Ca_addLeg : Cond.selects m_Ca_addLeg.1.cls m_Ca_addLeg.1 m_Ca_addLeg.1 ∈ sv_T := sv_in 24 (by decide +kernel) rfl
def F_Ca_addLeg_b117 (kc31 : Int32 → Int32 → Int32 → Int32 → sv_S → Option (Int32 × sv_S)) (x2 : Int32) (x3 : Int32) (x4 : Int32) (x5 : Int32) (s : sv_S) : Option (Int32 × sv_S) :=
  ss_let (x5 + (1 : Int32)) fun v8 =>
  kc31 x2 x3 x4 v8 s
theorem V_Ca_addLeg_b117 (E : sv_E) (d : Nat) (kc31 : Int32 → Int32 → Int32 → Int32 → sv_S → Option (Int32 × sv_S)) (hc31 : ∀ (x2 : Int32) (x3 : Int32) (x4 : Int32) (x5 : Int32) (s : sv_S), sv_V E m_Ca_addLeg (d + 1) ss_i 31 [(0, sv_r E 159), (2, .int x2), (3, .int x3), (4, .int x4), (5, .int x5)] [] (ss_e s) (kc31 x2 x3 x4 x5 s)) (x2 : Int32) (x3 : Int32) (x4 : Int32) (x5 : Int32) (s : sv_S) : sv_V E m_Ca_addLeg (d + 1) ss_i 117 [(0, sv_r E 159), (2, .int x2), (3, .int x3), (4, .int x4), (5, .int x5)] [] (ss_e s) (F_Ca_addLeg_b117 kc31 x2 x3 x4 x5 s) := by
  unfold F_Ca_addLeg_b117
  refine ss_letr (fun v8 e_v8 => ?_)
  refine sv_iinc (pc := 117) (v := v8) (lv' := [(5, .int v8), (0, sv_r E 159), (2, .int x2), (3, .int x3), (4, .int x4)]) (sv_d k_Ca_addLeg 67 rfl) (n := 4) rfl (by rw [e_v8]; rfl) (by decide) rfl ?_
  refine sv_goto (pc := 120) (tgt := 31) (sv_d k_Ca_addLeg 68 rfl) (by decide) ?_
  exact sv_loc [1, 2, 3, 4, 0] rfl (hc31 x2 x3 x4 v8 s)
def F_Ca_addLeg_b31 : Nat → Int32 → Int32 → Int32 → Int32 → sv_S → Option (Int32 × sv_S)
  | 0 => fun _ _ _ _ _ => none
  | n + 1 => fun x2 x3 x4 x5 s =>
    if (s.1 159 4) ≤ x5 then
      if sv_bl x4 = true then some (x4, s) else none
    else
    if sv_ib x5 60 = true then
      (F_Rs_row (s.1 161 x5.toNatClampNeg) s).bind fun r5 =>
      if ss_ok2 s r5 5 = true then
        if sv_ib (x3 + (s.1 r5 4)) 144 = true then
          if sv_ib x5 60 = true then
            if sv_ib (s.1 161 x5.toNatClampNeg) 60 = true then
              ss_let ((s.1 162 (x3 + (s.1 r5 4)).toNatClampNeg) + (s.1 160 (s.1 161 x5.toNatClampNeg).toNatClampNeg)) fun v7 =>
              if sv_ib (x2 + (s.1 r5 3)) 144 = true then
                if (s.1 162 (x2 + (s.1 r5 3)).toNatClampNeg) ≤ v7 then
                  F_Ca_addLeg_b117 (F_Ca_addLeg_b31  n) x2 x3 x4 x5 s
                else
                if sv_ib (x2 + (s.1 r5 3)) 144 = true then
                  ss_let (ss_setI s 162 (x2 + (s.1 r5 3)).toNatClampNeg v7) fun s9 =>
                  F_Ca_addLeg_b117 (F_Ca_addLeg_b31  n) x2 x3 (1 : Int32) x5 s9
                else none
              else none
            else none
          else none
        else none
      else none
    else none
theorem V_Ca_addLeg_b31 (E : sv_E) (d : Nat) : ∀ (n : Nat) (x2 : Int32) (x3 : Int32) (x4 : Int32) (x5 : Int32) (s : sv_S), sv_V E m_Ca_addLeg (d + 1) ss_i 31 [(0, sv_r E 159), (2, .int x2), (3, .int x3), (4, .int x4), (5, .int x5)] [] (ss_e s) (F_Ca_addLeg_b31 n x2 x3 x4 x5 s) := by
  intro n
  induction n with
  | zero => intro x2 x3 x4 x5 s; exact sv_none
  | succ n ih =>
    intro x2 x3 x4 x5 s
    unfold F_Ca_addLeg_b31
    refine sv_iload (pc := 31) 4 (sv_d k_Ca_addLeg 20 rfl) rfl ?_
    refine sv_aload_n (pc := 33) 0 (sv_d k_Ca_addLeg 21 rfl) rfl rfl ?_
    refine sv_getf (pc := 34) 4 (sv_d k_Ca_addLeg 22 rfl) cf1 (by decide) w397 kd159 (ss_lt (by decide)) rfl ?_
    refine sv_icmp_ge (pc := 37) (tgt := 123) (sv_d k_Ca_addLeg 23 rfl) (by decide) ?_ ?_
    · refine sv_iload (pc := 123) 3 (sv_d k_Ca_addLeg 69 rfl) rfl ?_
      exact ss_grd (fun bb4 => sv_ret (pc := 125) (sv_d k_Ca_addLeg 70 rfl) ⟨_, rfl, sv_bln bb4⟩ rfl)
    · refine sv_aload_n (pc := 40) 0 (sv_d k_Ca_addLeg 24 rfl) rfl rfl ?_
      refine sv_getf (pc := 41) 0 (sv_d k_Ca_addLeg 25 rfl) cf1 (by decide) w392 kd159 (ss_lt (by decide)) (lr_159_0 E _) ?_
      refine sv_aload_n (pc := 44) 0 (sv_d k_Ca_addLeg 26 rfl) rfl rfl ?_
      refine sv_getf (pc := 45) 2 (sv_d k_Ca_addLeg 27 rfl) cf1 (by decide) w395 kd159 (ss_lt (by decide)) (lr_159_2 E _) ?_
      refine sv_iload (pc := 48) 4 (sv_d k_Ca_addLeg 28 rfl) rfl ?_
      refine ss_iald (pc := 50) (n := 60) (sv_d k_Ca_addLeg 29 rfl) kd161 (ss_lt (by decide)) rfl ?_
      refine sv_callV (pc := 51) (ψ := (ss_pq E s)) (As := [.int (s.1 161 x5.toNatClampNeg)]) (rest := []) (c := 88) (sv_d k_Ca_addLeg 30 rfl) g_Rs_row w1056 in_Rs_row se_Rs_row cf6 kd88 (ss_lt (by decide)) rfl (Nat.le_of_ble_eq_true rfl) (V_Rs_row E (d + 0) (s.1 161 x5.toNatClampNeg) s) (Nat.le_of_ble_eq_true rfl) rfl (fun r5 => ?_)
      show sv_V E _ _ _ 54 _ [sv_r E r5] (ss_e s) _
      refine ss_gd2 (fun h_g6 o_g6 l_g6 => ?_)
      refine sv_astore (pc := 54) (lv' := [(6, sv_r E r5), (0, sv_r E 159), (2, .int x2), (3, .int x3), (4, .int x4), (5, .int x5)]) (sv_d k_Ca_addLeg 31 rfl) (by decide) rfl ?_
      refine sv_aload_n (pc := 56) 1 (sv_d k_Ca_addLeg 32 rfl) rfl rfl ?_
      refine sv_getf (pc := 57) 3 (sv_d k_Ca_addLeg 33 rfl) cf1 (by decide) w396 kd159 (ss_lt (by decide)) (lr_159_3 E _) ?_
      refine sv_iload_n (pc := 60) 3 (sv_d k_Ca_addLeg 34 rfl) rfl rfl ?_
      refine sv_aload (pc := 61) 0 (sv_d k_Ca_addLeg 35 rfl) rfl ?_
      refine sv_getN (pc := 63) 4 (sv_d k_Ca_addLeg 36 rfl) cf5 (by decide) w276 h_g6 l_g6 rfl ?_
      refine sv_iadd (pc := 66) (sv_d k_Ca_addLeg 37 rfl) ?_
      refine ss_iald (pc := 67) (n := 144) (sv_d k_Ca_addLeg 38 rfl) kd162 (ss_lt (by decide)) rfl ?_
      refine sv_aload_n (pc := 68) 1 (sv_d k_Ca_addLeg 39 rfl) rfl rfl ?_
      refine sv_getf (pc := 69) 1 (sv_d k_Ca_addLeg 40 rfl) cf1 (by decide) w393 kd159 (ss_lt (by decide)) (lr_159_1 E _) ?_
      refine sv_aload_n (pc := 72) 1 (sv_d k_Ca_addLeg 41 rfl) rfl rfl ?_
      refine sv_getf (pc := 73) 2 (sv_d k_Ca_addLeg 42 rfl) cf1 (by decide) w395 kd159 (ss_lt (by decide)) (lr_159_2 E _) ?_
      refine sv_iload (pc := 76) 5 (sv_d k_Ca_addLeg 43 rfl) rfl ?_
      refine ss_iald (pc := 78) (n := 60) (sv_d k_Ca_addLeg 44 rfl) kd161 (ss_lt (by decide)) rfl ?_
      refine ss_iald (pc := 79) (n := 60) (sv_d k_Ca_addLeg 45 rfl) kd160 (ss_lt (by decide)) rfl ?_
      refine sv_iadd (pc := 80) (sv_d k_Ca_addLeg 46 rfl) ?_
      refine ss_top (fun v7 e_v7 => ?_)
      refine sv_istore (pc := 81) (lv' := [(7, .int v7), (6, sv_r E r5), (0, sv_r E 159), (2, .int x2), (3, .int x3), (4, .int x4), (5, .int x5)]) (sv_d k_Ca_addLeg 47 rfl) (by decide) rfl ?_
      refine sv_iload (pc := 83) 0 (sv_d k_Ca_addLeg 48 rfl) rfl ?_
      refine sv_aload_n (pc := 85) 2 (sv_d k_Ca_addLeg 49 rfl) rfl rfl ?_
      refine sv_getf (pc := 86) 3 (sv_d k_Ca_addLeg 50 rfl) cf1 (by decide) w396 kd159 (ss_lt (by decide)) (lr_159_3 E _) ?_
      refine sv_iload_n (pc := 89) 3 (sv_d k_Ca_addLeg 51 rfl) rfl rfl ?_
      refine sv_aload (pc := 90) 1 (sv_d k_Ca_addLeg 52 rfl) rfl ?_
      refine sv_getN (pc := 92) 3 (sv_d k_Ca_addLeg 53 rfl) cf5 (by decide) w271 h_g6 l_g6 rfl ?_
      refine sv_iadd (pc := 95) (sv_d k_Ca_addLeg 54 rfl) ?_
      refine ss_iald (pc := 96) (n := 144) (sv_d k_Ca_addLeg 55 rfl) kd162 (ss_lt (by decide)) rfl ?_
      refine sv_icmp_ge (pc := 97) (tgt := 117) (sv_d k_Ca_addLeg 56 rfl) (by decide) ?_ ?_
      · exact sv_loc [2, 3, 4, 5, 6] rfl (V_Ca_addLeg_b117 E d (F_Ca_addLeg_b31  n) ih x2 x3 x4 x5 s)
      · refine sv_aload_n (pc := 100) 2 (sv_d k_Ca_addLeg 57 rfl) rfl rfl ?_
        refine sv_getf (pc := 101) 3 (sv_d k_Ca_addLeg 58 rfl) cf1 (by decide) w396 kd159 (ss_lt (by decide)) (lr_159_3 E _) ?_
        refine sv_iload_n (pc := 104) 3 (sv_d k_Ca_addLeg 59 rfl) rfl rfl ?_
        refine sv_aload (pc := 105) 1 (sv_d k_Ca_addLeg 60 rfl) rfl ?_
        refine sv_getN (pc := 107) 3 (sv_d k_Ca_addLeg 61 rfl) cf5 (by decide) w271 h_g6 l_g6 rfl ?_
        refine sv_iadd (pc := 110) (sv_d k_Ca_addLeg 62 rfl) ?_
        refine sv_iload (pc := 111) 0 (sv_d k_Ca_addLeg 63 rfl) rfl ?_
        refine ss_iast (pc := 113) (n := 144) (sv_d k_Ca_addLeg 64 rfl) kd162 (by decide) (ss_lt (by decide)) rfl (ss_lets (fun s9 e_s9 => ?_))
        have l_g6 : r5 < 243 + s9.2.2.2.2.1 := by rw [e_s9]; exact l_g6
        refine sv_iconst (pc := 114) (v := (1 : Int32)) (sv_d k_Ca_addLeg 65 rfl) (by decide) ?_
        refine sv_istore (pc := 115) (lv' := [(4, .int (1 : Int32)), (7, .int v7), (6, sv_r E r5), (0, sv_r E 159), (2, .int x2), (3, .int x3), (5, .int x5)]) (sv_d k_Ca_addLeg 66 rfl) (by decide) rfl ?_
        exact sv_loc [3, 4, 5, 0, 6] rfl (V_Ca_addLeg_b117 E d (F_Ca_addLeg_b31  n) ih x2 x3 (1 : Int32) x5 s9)
def F_Ca_addLeg (x1 : Int32) (s : sv_S) : Option (Int32 × sv_S) :=
  ss_let (x1 * (16 : Int32)) fun v1 =>
  ss_let (v1 - (16 : Int32)) fun v2 =>
  if sv_cpb v2 v1 (16 : Int32) 144 144 = true then
    ss_let (ss_cpyI s 162 162 v2.toNatClampNeg v1.toNatClampNeg (16 : Int32).toNatClampNeg) fun s3 =>
    F_Ca_addLeg_b31 ss_F v1 v2 (0 : Int32) (0 : Int32) s3
  else none
theorem V_Ca_addLeg (E : sv_E) (d : Nat) (x1 : Int32) (s : sv_S) : sv_V E m_Ca_addLeg (d + 1) ss_i 0 (lv_args 0 [sv_r E 159, .int x1]) [] (ss_e s) (F_Ca_addLeg x1 s) := by
  show sv_V E m_Ca_addLeg (d + 1) ss_i 0 [(0, sv_r E 159), (1, .int x1)] [] (ss_e s) _
  unfold F_Ca_addLeg
  refine sv_iload_n (pc := 0) 1 (sv_d k_Ca_addLeg 0 rfl) rfl rfl ?_
  refine sv_bipush (pc := 1) (v := (16 : Int32)) (sv_d k_Ca_addLeg 1 rfl) (by decide) ?_
  refine sv_imul (pc := 3) (sv_d k_Ca_addLeg 2 rfl) ?_
  refine ss_top (fun v1 e_v1 => ?_)
  refine sv_istore_n (pc := 4) (lv' := [(2, .int v1), (0, sv_r E 159), (1, .int x1)]) (sv_d k_Ca_addLeg 3 rfl) rfl (by decide) rfl ?_
  refine sv_iload_n (pc := 5) 0 (sv_d k_Ca_addLeg 4 rfl) rfl rfl ?_
  refine sv_bipush (pc := 6) (v := (16 : Int32)) (sv_d k_Ca_addLeg 5 rfl) (by decide) ?_
  refine sv_isub (pc := 8) (sv_d k_Ca_addLeg 6 rfl) ?_
  refine ss_top (fun v2 e_v2 => ?_)
  refine sv_istore_n (pc := 9) (lv' := [(3, .int v2), (2, .int v1), (0, sv_r E 159), (1, .int x1)]) (sv_d k_Ca_addLeg 7 rfl) rfl (by decide) rfl ?_
  refine sv_aload_n (pc := 10) 2 (sv_d k_Ca_addLeg 8 rfl) rfl rfl ?_
  refine sv_getf (pc := 11) 3 (sv_d k_Ca_addLeg 9 rfl) cf1 (by decide) w396 kd159 (ss_lt (by decide)) (lr_159_3 E _) ?_
  refine sv_iload_n (pc := 14) 0 (sv_d k_Ca_addLeg 10 rfl) rfl rfl ?_
  refine sv_aload_n (pc := 15) 2 (sv_d k_Ca_addLeg 11 rfl) rfl rfl ?_
  refine sv_getf (pc := 16) 3 (sv_d k_Ca_addLeg 12 rfl) cf1 (by decide) w396 kd159 (ss_lt (by decide)) (lr_159_3 E _) ?_
  refine sv_iload_n (pc := 19) 1 (sv_d k_Ca_addLeg 13 rfl) rfl rfl ?_
  refine sv_bipush (pc := 20) (v := (16 : Int32)) (sv_d k_Ca_addLeg 14 rfl) (by decide) ?_
  refine ss_acopyI (pc := 22) (n0 := 144) (n1 := 144) (sv_d k_Ca_addLeg 15 rfl) w1067 kd162 kd162 (by decide) (by decide) (ss_lt (by decide)) (ss_lt (by decide)) rfl rfl (Nat.le_of_ble_eq_true rfl) (ss_lets (fun s3 e_s3 => ?_))
  refine sv_iconst (pc := 25) (v := (0 : Int32)) (sv_d k_Ca_addLeg 16 rfl) (by decide) ?_
  refine sv_istore (pc := 26) (lv' := [(4, .int (0 : Int32)), (3, .int v2), (2, .int v1), (0, sv_r E 159), (1, .int x1)]) (sv_d k_Ca_addLeg 17 rfl) (by decide) rfl ?_
  refine sv_iconst (pc := 28) (v := (0 : Int32)) (sv_d k_Ca_addLeg 18 rfl) (by decide) ?_
  refine sv_istore (pc := 29) (lv' := [(5, .int (0 : Int32)), (4, .int (0 : Int32)), (3, .int v2), (2, .int v1), (0, sv_r E 159), (1, .int x1)]) (sv_d k_Ca_addLeg 19 rfl) (by decide) rfl ?_
  exact sv_loc [4, 3, 2, 1, 0] rfl (V_Ca_addLeg_b31 E d ss_F v1 v2 (0 : Int32) (0 : Int32) s3)
/-! Ca_reach -/
abbrev m_Ca_reach : sv_M := (yX1_reach, cX1_reach, 3, none)
def t_Ca_reach : List (Nat × Instr × Nat) := [(0, .iconst 0, 1), (1, .istore_n 2, 1), (2, .iload_n 2, 1), (3, .bipush 16, 2), (5, .if_icmp .ge 26, 3), (8, .aload_n 0, 1), (9, .getfield 20, 3), (12, .iload_n 2, 1), (13, .iload_n 2, 1), (14, .iload_n 1, 1), (15, .if_icmp .ne 7, 3), (18, .iconst 0, 1), (19, .goto 5, 3), (22, .ldc 47, 2), (24, .iastore, 1), (25, .iinc 2 1, 3), (28, .goto (-26), 3), (31, .aload_n 0, 1), (32, .iconst 0, 1), (33, .putfield 48, 3), (36, .iconst 1, 1), (37, .istore_n 2, 1), (38, .iload_n 2, 1), (39, .bipush 8, 2), (41, .if_icmp .gt 23, 3), (44, .aload_n 0, 1), (45, .iload_n 2, 1), (46, .invokevirtual 51, 3), (49, .ifCond .ne 4, 3), (52, .return_, 1), (53, .aload_n 0, 1), (54, .iload_n 2, 1), (55, .putfield 48, 3), (58, .iinc 2 1, 3), (61, .goto (-23), 3), (64, .return_, 1)]
theorem k_Ca_reach : sv_tk m_Ca_reach.2.1 t_Ca_reach := by decide +kernel
theorem g_Ca_reach : sv_G m_Ca_reach 1 := ⟨by decide +kernel, sv_in 1061 (by decide +kernel) rfl, sv_in 99 (by decide +kernel) rfl, ⟨by decide, by decide⟩, by decide +kernel, by decide⟩
theorem in_Ca_reach : Cond.instanceMethod m_Ca_reach.1 ∈ sv_T := sv_in 1059 (by decide +kernel) rfl
theorem se_Ca_reach : Cond.selects m_Ca_reach.1.cls m_Ca_reach.1 m_Ca_reach.1 ∈ sv_T := sv_in 1060 (by decide +kernel) rfl
def F_Ca_reach_b38 : Nat → Int32 → sv_S → Option (sv_S)
  | 0 => fun _ _ => none
  | n + 1 => fun x2 s =>
    if (8 : Int32) < x2 then
      some s
    else
    (F_Ca_addLeg x2 s).bind fun r2 =>
    if r2.1 = 0 then
      some r2.2
    else
    ss_let (ss_setI r2.2 159 5 x2) fun s3 =>
    ss_let (x2 + (1 : Int32)) fun v4 =>
    F_Ca_reach_b38  n v4 s3
theorem V_Ca_reach_b38 (E : sv_E) (d : Nat) : ∀ (n : Nat) (x2 : Int32) (s : sv_S), sv_V E m_Ca_reach (d + 2) ss_v 38 [(0, sv_r E 159), (2, .int x2)] [] (ss_e s) (F_Ca_reach_b38 n x2 s) := by
  intro n
  induction n with
  | zero => intro x2 s; exact sv_none
  | succ n ih =>
    intro x2 s
    unfold F_Ca_reach_b38
    refine sv_iload_n (pc := 38) 1 (sv_d k_Ca_reach 22 rfl) rfl rfl ?_
    refine sv_bipush (pc := 39) (v := (8 : Int32)) (sv_d k_Ca_reach 23 rfl) (by decide) ?_
    refine sv_icmp_gt (pc := 41) (tgt := 64) (sv_d k_Ca_reach 24 rfl) (by decide) ?_ ?_
    · exact sv_retv (pc := 64) (sv_d k_Ca_reach 35 rfl) rfl rfl
    · refine sv_aload_n (pc := 44) 0 (sv_d k_Ca_reach 25 rfl) rfl rfl ?_
      refine sv_iload_n (pc := 45) 1 (sv_d k_Ca_reach 26 rfl) rfl rfl ?_
      refine sv_callV (pc := 46) (ψ := ss_i) (As := [.int x2]) (rest := []) (c := 159) (sv_d k_Ca_reach 27 rfl) g_Ca_addLeg w1063 in_Ca_addLeg se_Ca_addLeg cf1 kd159 (ss_lt (by decide)) rfl (Nat.le_of_ble_eq_true rfl) (V_Ca_addLeg E (d + 0) x2 s) (Nat.le_of_ble_eq_true rfl) rfl (fun r2 => ?_)
      show sv_V E _ _ _ 49 _ [.int r2.1] (ss_e r2.2) _
      refine sv_if_ne (pc := 49) (tgt := 53) (sv_d k_Ca_reach 28 rfl) (by decide) ?_ ?_
      · refine sv_aload_n (pc := 53) 0 (sv_d k_Ca_reach 30 rfl) rfl rfl ?_
        refine sv_iload_n (pc := 54) 1 (sv_d k_Ca_reach 31 rfl) rfl rfl ?_
        refine ss_putI (pc := 55) 5 (sv_d k_Ca_reach 32 rfl) cf1 (by decide) rfl w398 kd159 (ss_lt (by decide)) rfl rfl (fun _ => rfl) (ss_lets (fun s3 e_s3 => ?_))
        refine ss_letr (fun v4 e_v4 => ?_)
        refine sv_iinc (pc := 58) (v := v4) (lv' := [(2, .int v4), (0, sv_r E 159)]) (sv_d k_Ca_reach 33 rfl) (n := 1) rfl (by rw [e_v4]; rfl) (by decide) rfl ?_
        refine sv_goto (pc := 61) (tgt := 38) (sv_d k_Ca_reach 34 rfl) (by decide) ?_
        exact sv_loc [1, 0] rfl (ih v4 s3)
      · exact sv_retv (pc := 52) (sv_d k_Ca_reach 29 rfl) rfl rfl
def F_Ca_reach_b24 (kc2 : Int32 → Int32 → sv_S → Option (sv_S)) (x1 : Int32) (x2 : Int32) (t1 : Int32) (t2 : Int32) (s : sv_S) : Option (sv_S) :=
  if sv_ib t1 144 = true then
    ss_let (ss_setI s 162 t1.toNatClampNeg t2) fun s5 =>
    ss_let (x2 + (1 : Int32)) fun v6 =>
    kc2 x1 v6 s5
  else none
theorem V_Ca_reach_b24 (E : sv_E) (d : Nat) (kc2 : Int32 → Int32 → sv_S → Option (sv_S)) (hc2 : ∀ (x1 : Int32) (x2 : Int32) (s : sv_S), sv_V E m_Ca_reach (d + 2) ss_v 2 [(0, sv_r E 159), (1, .int x1), (2, .int x2)] [] (ss_e s) (kc2 x1 x2 s)) (x1 : Int32) (x2 : Int32) (t1 : Int32) (t2 : Int32) (s : sv_S) : sv_V E m_Ca_reach (d + 2) ss_v 24 [(0, sv_r E 159), (1, .int x1), (2, .int x2)] [.int t2, .int t1, sv_r E 162] (ss_e s) (F_Ca_reach_b24 kc2 x1 x2 t1 t2 s) := by
  unfold F_Ca_reach_b24
  refine ss_iast (pc := 24) (n := 144) (sv_d k_Ca_reach 14 rfl) kd162 (by decide) (ss_lt (by decide)) rfl (ss_lets (fun s5 e_s5 => ?_))
  refine ss_letr (fun v6 e_v6 => ?_)
  refine sv_iinc (pc := 25) (v := v6) (lv' := [(2, .int v6), (0, sv_r E 159), (1, .int x1)]) (sv_d k_Ca_reach 15 rfl) (n := 2) rfl (by rw [e_v6]; rfl) (by decide) rfl ?_
  refine sv_goto (pc := 28) (tgt := 2) (sv_d k_Ca_reach 16 rfl) (by decide) ?_
  exact sv_loc [1, 2, 0] rfl (hc2 x1 v6 s5)
def F_Ca_reach_b2 : Nat → Int32 → Int32 → sv_S → Option (sv_S)
  | 0 => fun _ _ _ => none
  | n + 1 => fun x1 x2 s =>
    if (16 : Int32) ≤ x2 then
      ss_let (ss_setI s 159 5 (0 : Int32)) fun s1 =>
      F_Ca_reach_b38 ss_F (1 : Int32) s1
    else
    if x2 = x1 then
      F_Ca_reach_b24 (F_Ca_reach_b2  n) x1 x2 x2 (0 : Int32) s
    else
    F_Ca_reach_b24 (F_Ca_reach_b2  n) x1 x2 x2 (1000000000 : Int32) s
theorem V_Ca_reach_b2 (E : sv_E) (d : Nat) : ∀ (n : Nat) (x1 : Int32) (x2 : Int32) (s : sv_S), sv_V E m_Ca_reach (d + 2) ss_v 2 [(0, sv_r E 159), (1, .int x1), (2, .int x2)] [] (ss_e s) (F_Ca_reach_b2 n x1 x2 s) := by
  intro n
  induction n with
  | zero => intro x1 x2 s; exact sv_none
  | succ n ih =>
    intro x1 x2 s
    unfold F_Ca_reach_b2
    refine sv_iload_n (pc := 2) 2 (sv_d k_Ca_reach 2 rfl) rfl rfl ?_
    refine sv_bipush (pc := 3) (v := (16 : Int32)) (sv_d k_Ca_reach 3 rfl) (by decide) ?_
    refine sv_icmp_ge (pc := 5) (tgt := 31) (sv_d k_Ca_reach 4 rfl) (by decide) ?_ ?_
    · refine sv_aload_n (pc := 31) 0 (sv_d k_Ca_reach 17 rfl) rfl rfl ?_
      refine sv_iconst (pc := 32) (v := (0 : Int32)) (sv_d k_Ca_reach 18 rfl) (by decide) ?_
      refine ss_putI (pc := 33) 5 (sv_d k_Ca_reach 19 rfl) cf1 (by decide) rfl w398 kd159 (ss_lt (by decide)) rfl rfl (fun _ => rfl) (ss_lets (fun s1 e_s1 => ?_))
      refine sv_iconst (pc := 36) (v := (1 : Int32)) (sv_d k_Ca_reach 20 rfl) (by decide) ?_
      refine sv_istore_n (pc := 37) (lv' := [(2, .int (1 : Int32)), (0, sv_r E 159), (1, .int x1)]) (sv_d k_Ca_reach 21 rfl) rfl (by decide) rfl ?_
      exact sv_loc [1, 0] rfl (V_Ca_reach_b38 E d ss_F (1 : Int32) s1)
    · refine sv_aload_n (pc := 8) 0 (sv_d k_Ca_reach 5 rfl) rfl rfl ?_
      refine sv_getf (pc := 9) 3 (sv_d k_Ca_reach 6 rfl) cf1 (by decide) w396 kd159 (ss_lt (by decide)) (lr_159_3 E _) ?_
      refine sv_iload_n (pc := 12) 2 (sv_d k_Ca_reach 7 rfl) rfl rfl ?_
      refine sv_iload_n (pc := 13) 2 (sv_d k_Ca_reach 8 rfl) rfl rfl ?_
      refine sv_iload_n (pc := 14) 1 (sv_d k_Ca_reach 9 rfl) rfl rfl ?_
      refine sv_icmp_ne (pc := 15) (tgt := 22) (sv_d k_Ca_reach 10 rfl) (by decide) ?_ ?_
      · refine sv_ldc (pc := 22) (v := (1000000000 : Int32)) w1062 (sv_d k_Ca_reach 13 rfl) ?_
        exact sv_loc [0, 1, 2] rfl (V_Ca_reach_b24 E d (F_Ca_reach_b2  n) ih x1 x2 x2 (1000000000 : Int32) s)
      · refine sv_iconst (pc := 18) (v := (0 : Int32)) (sv_d k_Ca_reach 11 rfl) (by decide) ?_
        refine sv_goto (pc := 19) (tgt := 24) (sv_d k_Ca_reach 12 rfl) (by decide) ?_
        exact sv_loc [0, 1, 2] rfl (V_Ca_reach_b24 E d (F_Ca_reach_b2  n) ih x1 x2 x2 (0 : Int32) s)
def F_Ca_reach (x1 : Int32) (s : sv_S) : Option (sv_S) :=
  F_Ca_reach_b2 ss_F x1 (0 : Int32) s
theorem V_Ca_reach (E : sv_E) (d : Nat) (x1 : Int32) (s : sv_S) : sv_V E m_Ca_reach (d + 2) ss_v 0 (lv_args 0 [sv_r E 159, .int x1]) [] (ss_e s) (F_Ca_reach x1 s) := by
  show sv_V E m_Ca_reach (d + 2) ss_v 0 [(0, sv_r E 159), (1, .int x1)] [] (ss_e s) _
  unfold F_Ca_reach
  refine sv_iconst (pc := 0) (v := (0 : Int32)) (sv_d k_Ca_reach 0 rfl) (by decide) ?_
  refine sv_istore_n (pc := 1) (lv' := [(2, .int (0 : Int32)), (0, sv_r E 159), (1, .int x1)]) (sv_d k_Ca_reach 1 rfl) rfl (by decide) rfl ?_
  exact sv_loc [1, 2, 0] rfl (V_Ca_reach_b2 E d ss_F x1 (0 : Int32) s)
/-! Ca_leastFrom -/
abbrev m_Ca_leastFrom : sv_M := (yX1_leastFrom, cX1_leastFrom, 3, (some .int))
def t_Ca_leastFrom : List (Nat × Instr × Nat) := [(0, .aload_n 0, 1), (1, .getfield 20, 3), (4, .aload_n 0, 1), (5, .getfield 48, 3), (8, .bipush 16, 2), (10, .imul, 1), (11, .iload_n 1, 1), (12, .iadd, 1), (13, .iaload, 1), (14, .istore_n 2, 1), (15, .iload_n 2, 1), (16, .ldc 47, 2), (18, .if_icmp .lt 7, 3), (21, .iconst (-1), 1), (22, .goto 4, 3), (25, .iload_n 2, 1), (26, .ireturn, 1)]
theorem k_Ca_leastFrom : sv_tk m_Ca_leastFrom.2.1 t_Ca_leastFrom := by decide +kernel
theorem g_Ca_leastFrom : sv_G m_Ca_leastFrom 1 := ⟨by decide +kernel, sv_in 1071 (by decide +kernel) rfl, sv_in 99 (by decide +kernel) rfl, ⟨by decide, by decide⟩, by decide +kernel, by decide⟩
theorem in_Ca_leastFrom : Cond.instanceMethod m_Ca_leastFrom.1 ∈ sv_T := sv_in 1069 (by decide +kernel) rfl
theorem se_Ca_leastFrom : Cond.selects m_Ca_leastFrom.1.cls m_Ca_leastFrom.1 m_Ca_leastFrom.1 ∈ sv_T := sv_in 1070 (by decide +kernel) rfl
def F_Ca_leastFrom (x1 : Int32) (s : sv_S) : Option (Int32) :=
  if sv_ib (((s.1 159 5) * (16 : Int32)) + x1) 144 = true then
    ss_let (s.1 162 (((s.1 159 5) * (16 : Int32)) + x1).toNatClampNeg) fun v1 =>
    if v1 < (1000000000 : Int32) then
      some v1
    else
    some (-1 : Int32)
  else none
theorem V_Ca_leastFrom (E : sv_E) (d : Nat) (x1 : Int32) (s : sv_S) : sv_V E m_Ca_leastFrom (d + 0) (ss_pi s) 0 (lv_args 0 [sv_r E 159, .int x1]) [] (ss_e s) (F_Ca_leastFrom x1 s) := by
  show sv_V E m_Ca_leastFrom (d + 0) (ss_pi s) 0 [(0, sv_r E 159), (1, .int x1)] [] (ss_e s) _
  unfold F_Ca_leastFrom
  refine sv_aload_n (pc := 0) 0 (sv_d k_Ca_leastFrom 0 rfl) rfl rfl ?_
  refine sv_getf (pc := 1) 3 (sv_d k_Ca_leastFrom 1 rfl) cf1 (by decide) w396 kd159 (ss_lt (by decide)) (lr_159_3 E _) ?_
  refine sv_aload_n (pc := 4) 0 (sv_d k_Ca_leastFrom 2 rfl) rfl rfl ?_
  refine sv_getf (pc := 5) 5 (sv_d k_Ca_leastFrom 3 rfl) cf1 (by decide) w398 kd159 (ss_lt (by decide)) rfl ?_
  refine sv_bipush (pc := 8) (v := (16 : Int32)) (sv_d k_Ca_leastFrom 4 rfl) (by decide) ?_
  refine sv_imul (pc := 10) (sv_d k_Ca_leastFrom 5 rfl) ?_
  refine sv_iload_n (pc := 11) 1 (sv_d k_Ca_leastFrom 6 rfl) rfl rfl ?_
  refine sv_iadd (pc := 12) (sv_d k_Ca_leastFrom 7 rfl) ?_
  refine ss_iald (pc := 13) (n := 144) (sv_d k_Ca_leastFrom 8 rfl) kd162 (ss_lt (by decide)) rfl ?_
  refine ss_top (fun v1 e_v1 => ?_)
  refine sv_istore_n (pc := 14) (lv' := [(2, .int v1), (0, sv_r E 159), (1, .int x1)]) (sv_d k_Ca_leastFrom 9 rfl) rfl (by decide) rfl ?_
  refine sv_iload_n (pc := 15) 0 (sv_d k_Ca_leastFrom 10 rfl) rfl rfl ?_
  refine sv_ldc (pc := 16) (v := (1000000000 : Int32)) w1062 (sv_d k_Ca_leastFrom 11 rfl) ?_
  refine sv_icmp_lt (pc := 18) (tgt := 25) (sv_d k_Ca_leastFrom 12 rfl) (by decide) ?_ ?_
  · refine sv_iload_n (pc := 25) 0 (sv_d k_Ca_leastFrom 15 rfl) rfl rfl ?_
    exact sv_ret (pc := 26) (sv_d k_Ca_leastFrom 16 rfl) ⟨_, rfl, rfl⟩ rfl
  · refine sv_iconst (pc := 21) (v := (-1 : Int32)) (sv_d k_Ca_leastFrom 13 rfl) (by decide) ?_
    refine sv_goto (pc := 22) (tgt := 26) (sv_d k_Ca_leastFrom 14 rfl) (by decide) ?_
    exact sv_ret (pc := 26) (sv_d k_Ca_leastFrom 16 rfl) ⟨_, rfl, rfl⟩ rfl
/-! Ca_legsFrom -/
abbrev m_Ca_legsFrom : sv_M := (yX1_legsFrom, cX1_legsFrom, 4, (some .int))
def t_Ca_legsFrom : List (Nat × Instr × Nat) := [(0, .aload_n 0, 1), (1, .getfield 20, 3), (4, .aload_n 0, 1), (5, .getfield 48, 3), (8, .bipush 16, 2), (10, .imul, 1), (11, .iload_n 1, 1), (12, .iadd, 1), (13, .iaload, 1), (14, .istore_n 2, 1), (15, .iconst 0, 1), (16, .istore_n 3, 1), (17, .iload_n 3, 1), (18, .aload_n 0, 1), (19, .getfield 48, 3), (22, .if_icmp .ge 26, 3), (25, .aload_n 0, 1), (26, .getfield 20, 3), (29, .iload_n 3, 1), (30, .bipush 16, 2), (32, .imul, 1), (33, .iload_n 1, 1), (34, .iadd, 1), (35, .iaload, 1), (36, .iload_n 2, 1), (37, .if_icmp .ne 5, 3), (40, .iload_n 3, 1), (41, .ireturn, 1), (42, .iinc 3 1, 3), (45, .goto (-28), 3), (48, .aload_n 0, 1), (49, .getfield 48, 3), (52, .ireturn, 1)]
theorem k_Ca_legsFrom : sv_tk m_Ca_legsFrom.2.1 t_Ca_legsFrom := by decide +kernel
theorem g_Ca_legsFrom : sv_G m_Ca_legsFrom 1 := ⟨by decide +kernel, sv_in 1075 (by decide +kernel) rfl, sv_in 99 (by decide +kernel) rfl, ⟨by decide, by decide⟩, by decide +kernel, by decide⟩
theorem in_Ca_legsFrom : Cond.instanceMethod m_Ca_legsFrom.1 ∈ sv_T := sv_in 1073 (by decide +kernel) rfl
theorem se_Ca_legsFrom : Cond.selects m_Ca_legsFrom.1.cls m_Ca_legsFrom.1 m_Ca_legsFrom.1 ∈ sv_T := sv_in 1074 (by decide +kernel) rfl
def F_Ca_legsFrom_b17 (s : sv_S) : Nat → Int32 → Int32 → Int32 → Option (Int32)
  | 0 => fun _ _ _ => none
  | n + 1 => fun x1 x2 x3 =>
    if (s.1 159 5) ≤ x3 then
      some (s.1 159 5)
    else
    if sv_ib ((x3 * (16 : Int32)) + x1) 144 = true then
      if (s.1 162 ((x3 * (16 : Int32)) + x1).toNatClampNeg) = x2 then
        some x3
      else
      ss_let (x3 + (1 : Int32)) fun v2 =>
      F_Ca_legsFrom_b17 s n x1 x2 v2
    else none
theorem V_Ca_legsFrom_b17 (E : sv_E) (d : Nat) (s : sv_S) : ∀ (n : Nat) (x1 : Int32) (x2 : Int32) (x3 : Int32), sv_V E m_Ca_legsFrom (d + 0) (ss_pi s) 17 [(0, sv_r E 159), (1, .int x1), (2, .int x2), (3, .int x3)] [] (ss_e s) (F_Ca_legsFrom_b17 s n x1 x2 x3) := by
  intro n
  induction n with
  | zero => intro x1 x2 x3; exact sv_none
  | succ n ih =>
    intro x1 x2 x3
    unfold F_Ca_legsFrom_b17
    refine sv_iload_n (pc := 17) 3 (sv_d k_Ca_legsFrom 12 rfl) rfl rfl ?_
    refine sv_aload_n (pc := 18) 0 (sv_d k_Ca_legsFrom 13 rfl) rfl rfl ?_
    refine sv_getf (pc := 19) 5 (sv_d k_Ca_legsFrom 14 rfl) cf1 (by decide) w398 kd159 (ss_lt (by decide)) rfl ?_
    refine sv_icmp_ge (pc := 22) (tgt := 48) (sv_d k_Ca_legsFrom 15 rfl) (by decide) ?_ ?_
    · refine sv_aload_n (pc := 48) 0 (sv_d k_Ca_legsFrom 30 rfl) rfl rfl ?_
      refine sv_getf (pc := 49) 5 (sv_d k_Ca_legsFrom 31 rfl) cf1 (by decide) w398 kd159 (ss_lt (by decide)) rfl ?_
      exact sv_ret (pc := 52) (sv_d k_Ca_legsFrom 32 rfl) ⟨_, rfl, rfl⟩ rfl
    · refine sv_aload_n (pc := 25) 0 (sv_d k_Ca_legsFrom 16 rfl) rfl rfl ?_
      refine sv_getf (pc := 26) 3 (sv_d k_Ca_legsFrom 17 rfl) cf1 (by decide) w396 kd159 (ss_lt (by decide)) (lr_159_3 E _) ?_
      refine sv_iload_n (pc := 29) 3 (sv_d k_Ca_legsFrom 18 rfl) rfl rfl ?_
      refine sv_bipush (pc := 30) (v := (16 : Int32)) (sv_d k_Ca_legsFrom 19 rfl) (by decide) ?_
      refine sv_imul (pc := 32) (sv_d k_Ca_legsFrom 20 rfl) ?_
      refine sv_iload_n (pc := 33) 1 (sv_d k_Ca_legsFrom 21 rfl) rfl rfl ?_
      refine sv_iadd (pc := 34) (sv_d k_Ca_legsFrom 22 rfl) ?_
      refine ss_iald (pc := 35) (n := 144) (sv_d k_Ca_legsFrom 23 rfl) kd162 (ss_lt (by decide)) rfl ?_
      refine sv_iload_n (pc := 36) 2 (sv_d k_Ca_legsFrom 24 rfl) rfl rfl ?_
      refine sv_icmp_ne (pc := 37) (tgt := 42) (sv_d k_Ca_legsFrom 25 rfl) (by decide) ?_ ?_
      · refine ss_letr (fun v2 e_v2 => ?_)
        refine sv_iinc (pc := 42) (v := v2) (lv' := [(3, .int v2), (0, sv_r E 159), (1, .int x1), (2, .int x2)]) (sv_d k_Ca_legsFrom 28 rfl) (n := 3) rfl (by rw [e_v2]; rfl) (by decide) rfl ?_
        refine sv_goto (pc := 45) (tgt := 17) (sv_d k_Ca_legsFrom 29 rfl) (by decide) ?_
        exact sv_loc [1, 2, 3, 0] rfl (ih x1 x2 v2)
      · refine sv_iload_n (pc := 40) 3 (sv_d k_Ca_legsFrom 26 rfl) rfl rfl ?_
        exact sv_ret (pc := 41) (sv_d k_Ca_legsFrom 27 rfl) ⟨_, rfl, rfl⟩ rfl
def F_Ca_legsFrom (x1 : Int32) (s : sv_S) : Option (Int32) :=
  if sv_ib (((s.1 159 5) * (16 : Int32)) + x1) 144 = true then
    ss_let (s.1 162 (((s.1 159 5) * (16 : Int32)) + x1).toNatClampNeg) fun v1 =>
    F_Ca_legsFrom_b17 s ss_F x1 v1 (0 : Int32)
  else none
theorem V_Ca_legsFrom (E : sv_E) (d : Nat) (x1 : Int32) (s : sv_S) : sv_V E m_Ca_legsFrom (d + 0) (ss_pi s) 0 (lv_args 0 [sv_r E 159, .int x1]) [] (ss_e s) (F_Ca_legsFrom x1 s) := by
  show sv_V E m_Ca_legsFrom (d + 0) (ss_pi s) 0 [(0, sv_r E 159), (1, .int x1)] [] (ss_e s) _
  unfold F_Ca_legsFrom
  refine sv_aload_n (pc := 0) 0 (sv_d k_Ca_legsFrom 0 rfl) rfl rfl ?_
  refine sv_getf (pc := 1) 3 (sv_d k_Ca_legsFrom 1 rfl) cf1 (by decide) w396 kd159 (ss_lt (by decide)) (lr_159_3 E _) ?_
  refine sv_aload_n (pc := 4) 0 (sv_d k_Ca_legsFrom 2 rfl) rfl rfl ?_
  refine sv_getf (pc := 5) 5 (sv_d k_Ca_legsFrom 3 rfl) cf1 (by decide) w398 kd159 (ss_lt (by decide)) rfl ?_
  refine sv_bipush (pc := 8) (v := (16 : Int32)) (sv_d k_Ca_legsFrom 4 rfl) (by decide) ?_
  refine sv_imul (pc := 10) (sv_d k_Ca_legsFrom 5 rfl) ?_
  refine sv_iload_n (pc := 11) 1 (sv_d k_Ca_legsFrom 6 rfl) rfl rfl ?_
  refine sv_iadd (pc := 12) (sv_d k_Ca_legsFrom 7 rfl) ?_
  refine ss_iald (pc := 13) (n := 144) (sv_d k_Ca_legsFrom 8 rfl) kd162 (ss_lt (by decide)) rfl ?_
  refine ss_top (fun v1 e_v1 => ?_)
  refine sv_istore_n (pc := 14) (lv' := [(2, .int v1), (0, sv_r E 159), (1, .int x1)]) (sv_d k_Ca_legsFrom 9 rfl) rfl (by decide) rfl ?_
  refine sv_iconst (pc := 15) (v := (0 : Int32)) (sv_d k_Ca_legsFrom 10 rfl) (by decide) ?_
  refine sv_istore_n (pc := 16) (lv' := [(3, .int (0 : Int32)), (2, .int v1), (0, sv_r E 159), (1, .int x1)]) (sv_d k_Ca_legsFrom 11 rfl) rfl (by decide) rfl ?_
  exact sv_loc [2, 3, 1, 0] rfl (V_Ca_legsFrom_b17 E d s ss_F x1 v1 (0 : Int32))
/-! Ca_firstLeg -/
abbrev m_Ca_firstLeg : sv_M := (yX1_firstLeg, cX1_firstLeg, 7, (some .int))
def t_Ca_firstLeg : List (Nat × Instr × Nat) := [(0, .iload_n 2, 1), (1, .iconst 1, 1), (2, .if_icmp .ge 5, 3), (5, .iconst (-1), 1), (6, .ireturn, 1), (7, .iload_n 2, 1), (8, .bipush 16, 2), (10, .imul, 1), (11, .istore_n 3, 1), (12, .iconst 0, 1), (13, .istore 4, 2), (15, .iload 4, 2), (17, .aload_n 0, 1), (18, .getfield 27, 3), (21, .if_icmp .ge 85, 3), (24, .aload_n 0, 1), (25, .getfield 23, 3), (28, .aload_n 0, 1), (29, .getfield 17, 3), (32, .iload 4, 2), (34, .iaload, 1), (35, .invokevirtual 34, 3), (38, .astore 5, 2), (40, .aload_n 0, 1), (41, .getfield 20, 3), (44, .iload_n 3, 1), (45, .bipush 16, 2), (47, .isub, 1), (48, .aload 5, 2), (50, .getfield 61, 3), (53, .iadd, 1), (54, .iaload, 1), (55, .aload_n 0, 1), (56, .getfield 11, 3), (59, .aload_n 0, 1), (60, .getfield 17, 3), (63, .iload 4, 2), (65, .iaload, 1), (66, .iaload, 1), (67, .iadd, 1), (68, .istore 6, 2), (70, .aload 5, 2), (72, .getfield 64, 3), (75, .iload_n 1, 1), (76, .if_icmp .ne 24, 3), (79, .iload 6, 2), (81, .aload_n 0, 1), (82, .getfield 20, 3), (85, .iload_n 3, 1), (86, .iload_n 1, 1), (87, .iadd, 1), (88, .iaload, 1), (89, .if_icmp .ne 11, 3), (92, .aload_n 0, 1), (93, .getfield 17, 3), (96, .iload 4, 2), (98, .iaload, 1), (99, .ireturn, 1), (100, .iinc 4 1, 3), (103, .goto (-88), 3), (106, .iconst (-1), 1), (107, .ireturn, 1)]
theorem k_Ca_firstLeg : sv_tk m_Ca_firstLeg.2.1 t_Ca_firstLeg := by decide +kernel
theorem g_Ca_firstLeg : sv_G m_Ca_firstLeg 2 := ⟨by decide +kernel, sv_in 1084 (by decide +kernel) rfl, sv_in 99 (by decide +kernel) rfl, ⟨by decide, by decide⟩, by decide +kernel, by decide⟩
theorem in_Ca_firstLeg : Cond.instanceMethod m_Ca_firstLeg.1 ∈ sv_T := sv_in 1083 (by decide +kernel) rfl
theorem se_Ca_firstLeg : Cond.selects m_Ca_firstLeg.1.cls m_Ca_firstLeg.1 m_Ca_firstLeg.1 ∈ sv_T := sv_in 25 (by decide +kernel) rfl
def F_Ca_firstLeg_b100 (s : sv_S) (kc15 : Int32 → Int32 → Int32 → Option (Int32)) (x1 : Int32) (x3 : Int32) (x4 : Int32) : Option (Int32) :=
  ss_let (x4 + (1 : Int32)) fun v5 =>
  kc15 x1 x3 v5
theorem V_Ca_firstLeg_b100 (E : sv_E) (d : Nat) (s : sv_S) (kc15 : Int32 → Int32 → Int32 → Option (Int32)) (hc15 : ∀ (x1 : Int32) (x3 : Int32) (x4 : Int32), sv_V E m_Ca_firstLeg (d + 1) (ss_pi s) 15 [(0, sv_r E 159), (1, .int x1), (3, .int x3), (4, .int x4)] [] (ss_e s) (kc15 x1 x3 x4)) (x1 : Int32) (x3 : Int32) (x4 : Int32) : sv_V E m_Ca_firstLeg (d + 1) (ss_pi s) 100 [(0, sv_r E 159), (1, .int x1), (3, .int x3), (4, .int x4)] [] (ss_e s) (F_Ca_firstLeg_b100 s kc15 x1 x3 x4) := by
  unfold F_Ca_firstLeg_b100
  refine ss_letr (fun v5 e_v5 => ?_)
  refine sv_iinc (pc := 100) (v := v5) (lv' := [(4, .int v5), (0, sv_r E 159), (1, .int x1), (3, .int x3)]) (sv_d k_Ca_firstLeg 58 rfl) (n := 3) rfl (by rw [e_v5]; rfl) (by decide) rfl ?_
  refine sv_goto (pc := 103) (tgt := 15) (sv_d k_Ca_firstLeg 59 rfl) (by decide) ?_
  exact sv_loc [1, 2, 3, 0] rfl (hc15 x1 x3 v5)
def F_Ca_firstLeg_b15 (s : sv_S) : Nat → Int32 → Int32 → Int32 → Option (Int32)
  | 0 => fun _ _ _ => none
  | n + 1 => fun x1 x3 x4 =>
    if (s.1 159 4) ≤ x4 then
      some (-1 : Int32)
    else
    if sv_ib x4 60 = true then
      (F_Rs_row (s.1 161 x4.toNatClampNeg) s).bind fun r2 =>
      if ss_ok2 s r2 5 = true then
        if sv_ib ((x3 - (16 : Int32)) + (s.1 r2 4)) 144 = true then
          if sv_ib x4 60 = true then
            if sv_ib (s.1 161 x4.toNatClampNeg) 60 = true then
              ss_let ((s.1 162 ((x3 - (16 : Int32)) + (s.1 r2 4)).toNatClampNeg) + (s.1 160 (s.1 161 x4.toNatClampNeg).toNatClampNeg)) fun v4 =>
              if (s.1 r2 3) = x1 then
                if sv_ib (x3 + x1) 144 = true then
                  if v4 = (s.1 162 (x3 + x1).toNatClampNeg) then
                    if sv_ib x4 60 = true then
                      some (s.1 161 x4.toNatClampNeg)
                    else none
                  else
                  F_Ca_firstLeg_b100 s (F_Ca_firstLeg_b15 s n) x1 x3 x4
                else none
              else
              F_Ca_firstLeg_b100 s (F_Ca_firstLeg_b15 s n) x1 x3 x4
            else none
          else none
        else none
      else none
    else none
theorem V_Ca_firstLeg_b15 (E : sv_E) (d : Nat) (s : sv_S) : ∀ (n : Nat) (x1 : Int32) (x3 : Int32) (x4 : Int32), sv_V E m_Ca_firstLeg (d + 1) (ss_pi s) 15 [(0, sv_r E 159), (1, .int x1), (3, .int x3), (4, .int x4)] [] (ss_e s) (F_Ca_firstLeg_b15 s n x1 x3 x4) := by
  intro n
  induction n with
  | zero => intro x1 x3 x4; exact sv_none
  | succ n ih =>
    intro x1 x3 x4
    unfold F_Ca_firstLeg_b15
    refine sv_iload (pc := 15) 3 (sv_d k_Ca_firstLeg 11 rfl) rfl ?_
    refine sv_aload_n (pc := 17) 0 (sv_d k_Ca_firstLeg 12 rfl) rfl rfl ?_
    refine sv_getf (pc := 18) 4 (sv_d k_Ca_firstLeg 13 rfl) cf1 (by decide) w397 kd159 (ss_lt (by decide)) rfl ?_
    refine sv_icmp_ge (pc := 21) (tgt := 106) (sv_d k_Ca_firstLeg 14 rfl) (by decide) ?_ ?_
    · refine sv_iconst (pc := 106) (v := (-1 : Int32)) (sv_d k_Ca_firstLeg 60 rfl) (by decide) ?_
      exact sv_ret (pc := 107) (sv_d k_Ca_firstLeg 61 rfl) ⟨_, rfl, rfl⟩ rfl
    · refine sv_aload_n (pc := 24) 0 (sv_d k_Ca_firstLeg 15 rfl) rfl rfl ?_
      refine sv_getf (pc := 25) 0 (sv_d k_Ca_firstLeg 16 rfl) cf1 (by decide) w392 kd159 (ss_lt (by decide)) (lr_159_0 E _) ?_
      refine sv_aload_n (pc := 28) 0 (sv_d k_Ca_firstLeg 17 rfl) rfl rfl ?_
      refine sv_getf (pc := 29) 2 (sv_d k_Ca_firstLeg 18 rfl) cf1 (by decide) w395 kd159 (ss_lt (by decide)) (lr_159_2 E _) ?_
      refine sv_iload (pc := 32) 3 (sv_d k_Ca_firstLeg 19 rfl) rfl ?_
      refine ss_iald (pc := 34) (n := 60) (sv_d k_Ca_firstLeg 20 rfl) kd161 (ss_lt (by decide)) rfl ?_
      refine sv_callV (pc := 35) (ψ := (ss_pq E s)) (As := [.int (s.1 161 x4.toNatClampNeg)]) (rest := []) (c := 88) (sv_d k_Ca_firstLeg 21 rfl) g_Rs_row w1056 in_Rs_row se_Rs_row cf6 kd88 (ss_lt (by decide)) rfl (Nat.le_of_ble_eq_true rfl) (V_Rs_row E (d + 0) (s.1 161 x4.toNatClampNeg) s) (Nat.le_of_ble_eq_true rfl) rfl (fun r2 => ?_)
      show sv_V E _ _ _ 38 _ [sv_r E r2] (ss_e s) _
      refine ss_gd2 (fun h_g3 o_g3 l_g3 => ?_)
      refine sv_astore (pc := 38) (lv' := [(5, sv_r E r2), (0, sv_r E 159), (1, .int x1), (3, .int x3), (4, .int x4)]) (sv_d k_Ca_firstLeg 22 rfl) (by decide) rfl ?_
      refine sv_aload_n (pc := 40) 1 (sv_d k_Ca_firstLeg 23 rfl) rfl rfl ?_
      refine sv_getf (pc := 41) 3 (sv_d k_Ca_firstLeg 24 rfl) cf1 (by decide) w396 kd159 (ss_lt (by decide)) (lr_159_3 E _) ?_
      refine sv_iload_n (pc := 44) 3 (sv_d k_Ca_firstLeg 25 rfl) rfl rfl ?_
      refine sv_bipush (pc := 45) (v := (16 : Int32)) (sv_d k_Ca_firstLeg 26 rfl) (by decide) ?_
      refine sv_isub (pc := 47) (sv_d k_Ca_firstLeg 27 rfl) ?_
      refine sv_aload (pc := 48) 0 (sv_d k_Ca_firstLeg 28 rfl) rfl ?_
      refine sv_getN (pc := 50) 4 (sv_d k_Ca_firstLeg 29 rfl) cf5 (by decide) w276 h_g3 l_g3 rfl ?_
      refine sv_iadd (pc := 53) (sv_d k_Ca_firstLeg 30 rfl) ?_
      refine ss_iald (pc := 54) (n := 144) (sv_d k_Ca_firstLeg 31 rfl) kd162 (ss_lt (by decide)) rfl ?_
      refine sv_aload_n (pc := 55) 1 (sv_d k_Ca_firstLeg 32 rfl) rfl rfl ?_
      refine sv_getf (pc := 56) 1 (sv_d k_Ca_firstLeg 33 rfl) cf1 (by decide) w393 kd159 (ss_lt (by decide)) (lr_159_1 E _) ?_
      refine sv_aload_n (pc := 59) 1 (sv_d k_Ca_firstLeg 34 rfl) rfl rfl ?_
      refine sv_getf (pc := 60) 2 (sv_d k_Ca_firstLeg 35 rfl) cf1 (by decide) w395 kd159 (ss_lt (by decide)) (lr_159_2 E _) ?_
      refine sv_iload (pc := 63) 4 (sv_d k_Ca_firstLeg 36 rfl) rfl ?_
      refine ss_iald (pc := 65) (n := 60) (sv_d k_Ca_firstLeg 37 rfl) kd161 (ss_lt (by decide)) rfl ?_
      refine ss_iald (pc := 66) (n := 60) (sv_d k_Ca_firstLeg 38 rfl) kd160 (ss_lt (by decide)) rfl ?_
      refine sv_iadd (pc := 67) (sv_d k_Ca_firstLeg 39 rfl) ?_
      refine ss_top (fun v4 e_v4 => ?_)
      refine sv_istore (pc := 68) (lv' := [(6, .int v4), (5, sv_r E r2), (0, sv_r E 159), (1, .int x1), (3, .int x3), (4, .int x4)]) (sv_d k_Ca_firstLeg 40 rfl) (by decide) rfl ?_
      refine sv_aload (pc := 70) 1 (sv_d k_Ca_firstLeg 41 rfl) rfl ?_
      refine sv_getN (pc := 72) 3 (sv_d k_Ca_firstLeg 42 rfl) cf5 (by decide) w271 h_g3 l_g3 rfl ?_
      refine sv_iload_n (pc := 75) 3 (sv_d k_Ca_firstLeg 43 rfl) rfl rfl ?_
      refine sv_icmp_ne (pc := 76) (tgt := 100) (sv_d k_Ca_firstLeg 44 rfl) (by decide) ?_ ?_
      · exact sv_loc [2, 3, 4, 5] rfl (V_Ca_firstLeg_b100 E d s (F_Ca_firstLeg_b15 s n) ih x1 x3 x4)
      · refine sv_iload (pc := 79) 0 (sv_d k_Ca_firstLeg 45 rfl) rfl ?_
        refine sv_aload_n (pc := 81) 2 (sv_d k_Ca_firstLeg 46 rfl) rfl rfl ?_
        refine sv_getf (pc := 82) 3 (sv_d k_Ca_firstLeg 47 rfl) cf1 (by decide) w396 kd159 (ss_lt (by decide)) (lr_159_3 E _) ?_
        refine sv_iload_n (pc := 85) 4 (sv_d k_Ca_firstLeg 48 rfl) rfl rfl ?_
        refine sv_iload_n (pc := 86) 3 (sv_d k_Ca_firstLeg 49 rfl) rfl rfl ?_
        refine sv_iadd (pc := 87) (sv_d k_Ca_firstLeg 50 rfl) ?_
        refine ss_iald (pc := 88) (n := 144) (sv_d k_Ca_firstLeg 51 rfl) kd162 (ss_lt (by decide)) rfl ?_
        refine sv_icmp_ne (pc := 89) (tgt := 100) (sv_d k_Ca_firstLeg 52 rfl) (by decide) ?_ ?_
        · exact sv_loc [2, 3, 4, 5] rfl (V_Ca_firstLeg_b100 E d s (F_Ca_firstLeg_b15 s n) ih x1 x3 x4)
        · refine sv_aload_n (pc := 92) 2 (sv_d k_Ca_firstLeg 53 rfl) rfl rfl ?_
          refine sv_getf (pc := 93) 2 (sv_d k_Ca_firstLeg 54 rfl) cf1 (by decide) w395 kd159 (ss_lt (by decide)) (lr_159_2 E _) ?_
          refine sv_iload (pc := 96) 5 (sv_d k_Ca_firstLeg 55 rfl) rfl ?_
          refine ss_iald (pc := 98) (n := 60) (sv_d k_Ca_firstLeg 56 rfl) kd161 (ss_lt (by decide)) rfl ?_
          exact sv_ret (pc := 99) (sv_d k_Ca_firstLeg 57 rfl) ⟨_, rfl, rfl⟩ rfl
def F_Ca_firstLeg (x1 : Int32) (x2 : Int32) (s : sv_S) : Option (Int32) :=
  if (1 : Int32) ≤ x2 then
    ss_let (x2 * (16 : Int32)) fun v1 =>
    F_Ca_firstLeg_b15 s ss_F x1 v1 (0 : Int32)
  else
  some (-1 : Int32)
theorem V_Ca_firstLeg (E : sv_E) (d : Nat) (x1 : Int32) (x2 : Int32) (s : sv_S) : sv_V E m_Ca_firstLeg (d + 1) (ss_pi s) 0 (lv_args 0 [sv_r E 159, .int x1, .int x2]) [] (ss_e s) (F_Ca_firstLeg x1 x2 s) := by
  show sv_V E m_Ca_firstLeg (d + 1) (ss_pi s) 0 [(0, sv_r E 159), (1, .int x1), (2, .int x2)] [] (ss_e s) _
  unfold F_Ca_firstLeg
  refine sv_iload_n (pc := 0) 2 (sv_d k_Ca_firstLeg 0 rfl) rfl rfl ?_
  refine sv_iconst (pc := 1) (v := (1 : Int32)) (sv_d k_Ca_firstLeg 1 rfl) (by decide) ?_
  refine sv_icmp_ge (pc := 2) (tgt := 7) (sv_d k_Ca_firstLeg 2 rfl) (by decide) ?_ ?_
  · refine sv_iload_n (pc := 7) 2 (sv_d k_Ca_firstLeg 5 rfl) rfl rfl ?_
    refine sv_bipush (pc := 8) (v := (16 : Int32)) (sv_d k_Ca_firstLeg 6 rfl) (by decide) ?_
    refine sv_imul (pc := 10) (sv_d k_Ca_firstLeg 7 rfl) ?_
    refine ss_top (fun v1 e_v1 => ?_)
    refine sv_istore_n (pc := 11) (lv' := [(3, .int v1), (0, sv_r E 159), (1, .int x1), (2, .int x2)]) (sv_d k_Ca_firstLeg 8 rfl) rfl (by decide) rfl ?_
    refine sv_iconst (pc := 12) (v := (0 : Int32)) (sv_d k_Ca_firstLeg 9 rfl) (by decide) ?_
    refine sv_istore (pc := 13) (lv' := [(4, .int (0 : Int32)), (3, .int v1), (0, sv_r E 159), (1, .int x1), (2, .int x2)]) (sv_d k_Ca_firstLeg 10 rfl) (by decide) rfl ?_
    exact sv_loc [2, 3, 1, 0] rfl (V_Ca_firstLeg_b15 E d s ss_F x1 v1 (0 : Int32))
  · refine sv_iconst (pc := 5) (v := (-1 : Int32)) (sv_d k_Ca_firstLeg 3 rfl) (by decide) ?_
    exact sv_ret (pc := 6) (sv_d k_Ca_firstLeg 4 rfl) ⟨_, rfl, rfl⟩ rfl
/-! Ca_leg -/
abbrev m_Ca_leg : sv_M := (yX1_leg, cX1_leg, 7, (some .int))
def t_Ca_leg : List (Nat × Instr × Nat) := [(0, .iload_n 1, 1), (1, .istore_n 3, 1), (2, .aload_n 0, 1), (3, .iload_n 1, 1), (4, .invokevirtual 67, 3), (7, .istore 4, 2), (9, .iconst 0, 1), (10, .istore 5, 2), (12, .iload 5, 2), (14, .bipush 8, 2), (16, .if_icmp .ge 48, 3), (19, .aload_n 0, 1), (20, .iload_n 3, 1), (21, .iload 4, 2), (23, .iload 5, 2), (25, .isub, 1), (26, .invokevirtual 71, 3), (29, .istore 6, 2), (31, .iload 5, 2), (33, .iload_n 2, 1), (34, .if_icmp .eq 8, 3), (37, .iload 6, 2), (39, .ifCond .ge 6, 3), (42, .iload 6, 2), (44, .ireturn, 1), (45, .aload_n 0, 1), (46, .getfield 23, 3), (49, .iload 6, 2), (51, .invokevirtual 34, 3), (54, .getfield 61, 3), (57, .istore_n 3, 1), (58, .iinc 5 1, 3), (61, .goto (-49), 3), (64, .iconst (-1), 1), (65, .ireturn, 1)]
theorem k_Ca_leg : sv_tk m_Ca_leg.2.1 t_Ca_leg := by decide +kernel
theorem g_Ca_leg : sv_G m_Ca_leg 2 := ⟨by decide +kernel, sv_in 1079 (by decide +kernel) rfl, sv_in 99 (by decide +kernel) rfl, ⟨by decide, by decide⟩, by decide +kernel, by decide⟩
theorem in_Ca_leg : Cond.instanceMethod m_Ca_leg.1 ∈ sv_T := sv_in 1077 (by decide +kernel) rfl
theorem se_Ca_leg : Cond.selects m_Ca_leg.1.cls m_Ca_leg.1 m_Ca_leg.1 ∈ sv_T := sv_in 1078 (by decide +kernel) rfl
def F_Ca_leg_b12 (s : sv_S) : Nat → Int32 → Int32 → Int32 → Int32 → Option (Int32)
  | 0 => fun _ _ _ _ => none
  | n + 1 => fun x2 x3 x4 x5 =>
    if (8 : Int32) ≤ x5 then
      some (-1 : Int32)
    else
    (F_Ca_firstLeg x3 (x4 - x5) s).bind fun r2 =>
    if x5 = x2 then
      some r2
    else
    if 0 ≤ r2 then
      (F_Rs_row r2 s).bind fun r3 =>
      if ss_ok2 s r3 5 = true then
        ss_let (s.1 r3 4) fun v5 =>
        ss_let (x5 + (1 : Int32)) fun v6 =>
        F_Ca_leg_b12 s n x2 v5 x4 v6
      else none
    else
    some r2
theorem V_Ca_leg_b12 (E : sv_E) (d : Nat) (s : sv_S) : ∀ (n : Nat) (x2 : Int32) (x3 : Int32) (x4 : Int32) (x5 : Int32), sv_V E m_Ca_leg (d + 2) (ss_pi s) 12 [(0, sv_r E 159), (2, .int x2), (3, .int x3), (4, .int x4), (5, .int x5)] [] (ss_e s) (F_Ca_leg_b12 s n x2 x3 x4 x5) := by
  intro n
  induction n with
  | zero => intro x2 x3 x4 x5; exact sv_none
  | succ n ih =>
    intro x2 x3 x4 x5
    unfold F_Ca_leg_b12
    refine sv_iload (pc := 12) 4 (sv_d k_Ca_leg 8 rfl) rfl ?_
    refine sv_bipush (pc := 14) (v := (8 : Int32)) (sv_d k_Ca_leg 9 rfl) (by decide) ?_
    refine sv_icmp_ge (pc := 16) (tgt := 64) (sv_d k_Ca_leg 10 rfl) (by decide) ?_ ?_
    · refine sv_iconst (pc := 64) (v := (-1 : Int32)) (sv_d k_Ca_leg 33 rfl) (by decide) ?_
      exact sv_ret (pc := 65) (sv_d k_Ca_leg 34 rfl) ⟨_, rfl, rfl⟩ rfl
    · refine sv_aload_n (pc := 19) 0 (sv_d k_Ca_leg 11 rfl) rfl rfl ?_
      refine sv_iload_n (pc := 20) 2 (sv_d k_Ca_leg 12 rfl) rfl rfl ?_
      refine sv_iload (pc := 21) 3 (sv_d k_Ca_leg 13 rfl) rfl ?_
      refine sv_iload (pc := 23) 4 (sv_d k_Ca_leg 14 rfl) rfl ?_
      refine sv_isub (pc := 25) (sv_d k_Ca_leg 15 rfl) ?_
      refine sv_callV (pc := 26) (ψ := (ss_pi s)) (As := [.int x3, .int (x4 - x5)]) (rest := []) (c := 159) (sv_d k_Ca_leg 16 rfl) g_Ca_firstLeg w1081 in_Ca_firstLeg se_Ca_firstLeg cf1 kd159 (ss_lt (by decide)) rfl (Nat.le_of_ble_eq_true rfl) (V_Ca_firstLeg E (d + 0) x3 (x4 - x5) s) (Nat.le_of_ble_eq_true rfl) rfl (fun r2 => ?_)
      show sv_V E _ _ _ 29 _ [.int r2] (ss_e s) _
      refine sv_istore (pc := 29) (lv' := [(6, .int r2), (0, sv_r E 159), (2, .int x2), (3, .int x3), (4, .int x4), (5, .int x5)]) (sv_d k_Ca_leg 17 rfl) (by decide) rfl ?_
      refine sv_iload (pc := 31) 5 (sv_d k_Ca_leg 18 rfl) rfl ?_
      refine sv_iload_n (pc := 33) 2 (sv_d k_Ca_leg 19 rfl) rfl rfl ?_
      refine sv_icmp_eq (pc := 34) (tgt := 42) (sv_d k_Ca_leg 20 rfl) (by decide) ?_ ?_
      · refine sv_iload (pc := 42) 0 (sv_d k_Ca_leg 23 rfl) rfl ?_
        exact sv_ret (pc := 44) (sv_d k_Ca_leg 24 rfl) ⟨_, rfl, rfl⟩ rfl
      · refine sv_iload (pc := 37) 0 (sv_d k_Ca_leg 21 rfl) rfl ?_
        refine sv_if_ge (pc := 39) (tgt := 45) (sv_d k_Ca_leg 22 rfl) (by decide) ?_ ?_
        · refine sv_aload_n (pc := 45) 1 (sv_d k_Ca_leg 25 rfl) rfl rfl ?_
          refine sv_getf (pc := 46) 0 (sv_d k_Ca_leg 26 rfl) cf1 (by decide) w392 kd159 (ss_lt (by decide)) (lr_159_0 E _) ?_
          refine sv_iload (pc := 49) 0 (sv_d k_Ca_leg 27 rfl) rfl ?_
          refine sv_callV (pc := 51) (ψ := (ss_pq E s)) (As := [.int r2]) (rest := []) (c := 88) (sv_d k_Ca_leg 28 rfl) g_Rs_row w1056 in_Rs_row se_Rs_row cf6 kd88 (ss_lt (by decide)) rfl (Nat.le_of_ble_eq_true rfl) (V_Rs_row E (d + 1) r2 s) (Nat.le_of_ble_eq_true rfl) rfl (fun r3 => ?_)
          show sv_V E _ _ _ 54 _ [sv_r E r3] (ss_e s) _
          refine ss_gd2 (fun h_g4 o_g4 l_g4 => ?_)
          refine sv_getN (pc := 54) 4 (sv_d k_Ca_leg 29 rfl) cf5 (by decide) w276 h_g4 l_g4 rfl ?_
          refine ss_top (fun v5 e_v5 => ?_)
          refine sv_istore_n (pc := 57) (lv' := [(3, .int v5), (6, .int r2), (0, sv_r E 159), (2, .int x2), (4, .int x4), (5, .int x5)]) (sv_d k_Ca_leg 30 rfl) rfl (by decide) rfl ?_
          refine ss_letr (fun v6 e_v6 => ?_)
          refine sv_iinc (pc := 58) (v := v6) (lv' := [(5, .int v6), (3, .int v5), (6, .int r2), (0, sv_r E 159), (2, .int x2), (4, .int x4)]) (sv_d k_Ca_leg 31 rfl) (n := 5) rfl (by rw [e_v6]; rfl) (by decide) rfl ?_
          refine sv_goto (pc := 61) (tgt := 12) (sv_d k_Ca_leg 32 rfl) (by decide) ?_
          exact sv_loc [3, 4, 1, 5, 0] rfl (ih x2 v5 x4 v6)
        · refine sv_iload (pc := 42) 0 (sv_d k_Ca_leg 23 rfl) rfl ?_
          exact sv_ret (pc := 44) (sv_d k_Ca_leg 24 rfl) ⟨_, rfl, rfl⟩ rfl
def F_Ca_leg (x1 : Int32) (x2 : Int32) (s : sv_S) : Option (Int32) :=
  (F_Ca_legsFrom x1 s).bind fun r1 =>
  F_Ca_leg_b12 s ss_F x2 x1 r1 (0 : Int32)
theorem V_Ca_leg (E : sv_E) (d : Nat) (x1 : Int32) (x2 : Int32) (s : sv_S) : sv_V E m_Ca_leg (d + 2) (ss_pi s) 0 (lv_args 0 [sv_r E 159, .int x1, .int x2]) [] (ss_e s) (F_Ca_leg x1 x2 s) := by
  show sv_V E m_Ca_leg (d + 2) (ss_pi s) 0 [(0, sv_r E 159), (1, .int x1), (2, .int x2)] [] (ss_e s) _
  unfold F_Ca_leg
  refine sv_iload_n (pc := 0) 1 (sv_d k_Ca_leg 0 rfl) rfl rfl ?_
  refine sv_istore_n (pc := 1) (lv' := [(3, .int x1), (0, sv_r E 159), (1, .int x1), (2, .int x2)]) (sv_d k_Ca_leg 1 rfl) rfl (by decide) rfl ?_
  refine sv_aload_n (pc := 2) 1 (sv_d k_Ca_leg 2 rfl) rfl rfl ?_
  refine sv_iload_n (pc := 3) 2 (sv_d k_Ca_leg 3 rfl) rfl rfl ?_
  refine sv_callV (pc := 4) (ψ := (ss_pi s)) (As := [.int x1]) (rest := []) (c := 159) (sv_d k_Ca_leg 4 rfl) g_Ca_legsFrom w1080 in_Ca_legsFrom se_Ca_legsFrom cf1 kd159 (ss_lt (by decide)) rfl (Nat.le_of_ble_eq_true rfl) (V_Ca_legsFrom E (d + 1) x1 s) (Nat.le_of_ble_eq_true rfl) rfl (fun r1 => ?_)
  show sv_V E _ _ _ 7 _ [.int r1] (ss_e s) _
  refine sv_istore (pc := 7) (lv' := [(4, .int r1), (3, .int x1), (0, sv_r E 159), (1, .int x1), (2, .int x2)]) (sv_d k_Ca_leg 5 rfl) (by decide) rfl ?_
  refine sv_iconst (pc := 9) (v := (0 : Int32)) (sv_d k_Ca_leg 6 rfl) (by decide) ?_
  refine sv_istore (pc := 10) (lv' := [(5, .int (0 : Int32)), (4, .int r1), (3, .int x1), (0, sv_r E 159), (1, .int x1), (2, .int x2)]) (sv_d k_Ca_leg 7 rfl) (by decide) rfl ?_
  exact sv_loc [3, 5, 2, 1, 0] rfl (V_Ca_leg_b12 E d s ss_F x2 x1 r1 (0 : Int32))
/-! Ca_takenBy -/
abbrev m_Ca_takenBy : sv_M := (yX1_takenBy, cX1_takenBy, 9, (some .int))
def t_Ca_takenBy : List (Nat × Instr × Nat) := [(0, .iconst 0, 1), (1, .istore_n 3, 1), (2, .aload_n 0, 1), (3, .iload_n 2, 1), (4, .invokevirtual 67, 3), (7, .istore 4, 2), (9, .iload_n 2, 1), (10, .istore 5, 2), (12, .iconst 0, 1), (13, .istore 6, 2), (15, .iload 6, 2), (17, .iload 4, 2), (19, .if_icmp .ge 71, 3), (22, .aload_n 0, 1), (23, .iload 5, 2), (25, .iload 4, 2), (27, .iload 6, 2), (29, .isub, 1), (30, .invokevirtual 71, 3), (33, .istore 7, 2), (35, .iload 7, 2), (37, .ifCond .ge 5, 3), (40, .iload_n 3, 1), (41, .ireturn, 1), (42, .aload_n 0, 1), (43, .getfield 23, 3), (46, .iload 7, 2), (48, .invokevirtual 34, 3), (51, .astore 8, 2), (53, .iload_n 1, 1), (54, .iconst (-1), 1), (55, .if_icmp .eq 12, 3), (58, .aload 8, 2), (60, .getfield 75, 3), (63, .iload_n 1, 1), (64, .if_icmp .ne 13, 3), (67, .iload_n 3, 1), (68, .aload_n 0, 1), (69, .getfield 11, 3), (72, .iload 7, 2), (74, .iaload, 1), (75, .iadd, 1), (76, .istore_n 3, 1), (77, .aload 8, 2), (79, .getfield 61, 3), (82, .istore 5, 2), (84, .iinc 6 1, 3), (87, .goto (-72), 3), (90, .iload_n 3, 1), (91, .ireturn, 1)]
theorem k_Ca_takenBy : sv_tk m_Ca_takenBy.2.1 t_Ca_takenBy := by decide +kernel
theorem g_Ca_takenBy : sv_G m_Ca_takenBy 2 := ⟨by decide +kernel, sv_in 1132 (by decide +kernel) rfl, sv_in 99 (by decide +kernel) rfl, ⟨by decide, by decide⟩, by decide +kernel, by decide⟩
theorem in_Ca_takenBy : Cond.instanceMethod m_Ca_takenBy.1 ∈ sv_T := sv_in 1130 (by decide +kernel) rfl
theorem se_Ca_takenBy : Cond.selects m_Ca_takenBy.1.cls m_Ca_takenBy.1 m_Ca_takenBy.1 ∈ sv_T := sv_in 1131 (by decide +kernel) rfl
def F_Ca_takenBy_b77 (s : sv_S) (kc15 : Int32 → Int32 → Int32 → Int32 → Int32 → Option (Int32)) (x1 : Int32) (x3 : Int32) (x4 : Int32) (x6 : Int32) (a8 : Nat) : Option (Int32) :=
  ss_let (s.1 a8 4) fun v6 =>
  ss_let (x6 + (1 : Int32)) fun v7 =>
  kc15 x1 x3 x4 v6 v7
theorem V_Ca_takenBy_b77 (E : sv_E) (d : Nat) (s : sv_S) (kc15 : Int32 → Int32 → Int32 → Int32 → Int32 → Option (Int32)) (hc15 : ∀ (x1 : Int32) (x3 : Int32) (x4 : Int32) (x5 : Int32) (x6 : Int32), sv_V E m_Ca_takenBy (d + 2) (ss_pi s) 15 [(0, sv_r E 159), (1, .int x1), (3, .int x3), (4, .int x4), (5, .int x5), (6, .int x6)] [] (ss_e s) (kc15 x1 x3 x4 x5 x6)) (x1 : Int32) (x3 : Int32) (x4 : Int32) (x6 : Int32) (a8 : Nat) (h_a8 : ss_K a8 = 5) (o_a8 : 64 ≤ a8) (l_a8 : a8 < 243 + s.2.2.2.2.1) : sv_V E m_Ca_takenBy (d + 2) (ss_pi s) 77 [(0, sv_r E 159), (1, .int x1), (3, .int x3), (4, .int x4), (6, .int x6), (8, sv_r E a8)] [] (ss_e s) (F_Ca_takenBy_b77 s kc15 x1 x3 x4 x6 a8) := by
  unfold F_Ca_takenBy_b77
  refine sv_aload (pc := 77) 5 (sv_d k_Ca_takenBy 43 rfl) rfl ?_
  refine sv_getN (pc := 79) 4 (sv_d k_Ca_takenBy 44 rfl) cf5 (by decide) w276 h_a8 l_a8 rfl ?_
  refine ss_top (fun v6 e_v6 => ?_)
  refine sv_istore (pc := 82) (lv' := [(5, .int v6), (0, sv_r E 159), (1, .int x1), (3, .int x3), (4, .int x4), (6, .int x6), (8, sv_r E a8)]) (sv_d k_Ca_takenBy 45 rfl) (by decide) rfl ?_
  refine ss_letr (fun v7 e_v7 => ?_)
  refine sv_iinc (pc := 84) (v := v7) (lv' := [(6, .int v7), (5, .int v6), (0, sv_r E 159), (1, .int x1), (3, .int x3), (4, .int x4), (8, sv_r E a8)]) (sv_d k_Ca_takenBy 46 rfl) (n := 5) rfl (by rw [e_v7]; rfl) (by decide) rfl ?_
  refine sv_goto (pc := 87) (tgt := 15) (sv_d k_Ca_takenBy 47 rfl) (by decide) ?_
  exact sv_loc [2, 3, 4, 5, 1, 0] rfl (hc15 x1 x3 x4 v6 v7)
def F_Ca_takenBy_b67 (s : sv_S) (kc15 : Int32 → Int32 → Int32 → Int32 → Int32 → Option (Int32)) (x1 : Int32) (x3 : Int32) (x4 : Int32) (x6 : Int32) (x7 : Int32) (a8 : Nat) : Option (Int32) :=
  if sv_ib x7 60 = true then
    ss_let (x3 + (s.1 160 x7.toNatClampNeg)) fun v5 =>
    F_Ca_takenBy_b77 s kc15 x1 v5 x4 x6 a8
  else none
theorem V_Ca_takenBy_b67 (E : sv_E) (d : Nat) (s : sv_S) (kc15 : Int32 → Int32 → Int32 → Int32 → Int32 → Option (Int32)) (hc15 : ∀ (x1 : Int32) (x3 : Int32) (x4 : Int32) (x5 : Int32) (x6 : Int32), sv_V E m_Ca_takenBy (d + 2) (ss_pi s) 15 [(0, sv_r E 159), (1, .int x1), (3, .int x3), (4, .int x4), (5, .int x5), (6, .int x6)] [] (ss_e s) (kc15 x1 x3 x4 x5 x6)) (x1 : Int32) (x3 : Int32) (x4 : Int32) (x6 : Int32) (x7 : Int32) (a8 : Nat) (h_a8 : ss_K a8 = 5) (o_a8 : 64 ≤ a8) (l_a8 : a8 < 243 + s.2.2.2.2.1) : sv_V E m_Ca_takenBy (d + 2) (ss_pi s) 67 [(0, sv_r E 159), (1, .int x1), (3, .int x3), (4, .int x4), (6, .int x6), (7, .int x7), (8, sv_r E a8)] [] (ss_e s) (F_Ca_takenBy_b67 s kc15 x1 x3 x4 x6 x7 a8) := by
  unfold F_Ca_takenBy_b67
  refine sv_iload_n (pc := 67) 2 (sv_d k_Ca_takenBy 36 rfl) rfl rfl ?_
  refine sv_aload_n (pc := 68) 0 (sv_d k_Ca_takenBy 37 rfl) rfl rfl ?_
  refine sv_getf (pc := 69) 1 (sv_d k_Ca_takenBy 38 rfl) cf1 (by decide) w393 kd159 (ss_lt (by decide)) (lr_159_1 E _) ?_
  refine sv_iload (pc := 72) 5 (sv_d k_Ca_takenBy 39 rfl) rfl ?_
  refine ss_iald (pc := 74) (n := 60) (sv_d k_Ca_takenBy 40 rfl) kd160 (ss_lt (by decide)) rfl ?_
  refine sv_iadd (pc := 75) (sv_d k_Ca_takenBy 41 rfl) ?_
  refine ss_top (fun v5 e_v5 => ?_)
  refine sv_istore_n (pc := 76) (lv' := [(3, .int v5), (0, sv_r E 159), (1, .int x1), (4, .int x4), (6, .int x6), (7, .int x7), (8, sv_r E a8)]) (sv_d k_Ca_takenBy 42 rfl) rfl (by decide) rfl ?_
  exact sv_loc [1, 2, 0, 3, 4, 6] rfl (V_Ca_takenBy_b77 E d s kc15 hc15 x1 v5 x4 x6 a8 h_a8 o_a8 l_a8)
def F_Ca_takenBy_b15 (s : sv_S) : Nat → Int32 → Int32 → Int32 → Int32 → Int32 → Option (Int32)
  | 0 => fun _ _ _ _ _ => none
  | n + 1 => fun x1 x3 x4 x5 x6 =>
    if x4 ≤ x6 then
      some x3
    else
    (F_Ca_firstLeg x5 (x4 - x6) s).bind fun r2 =>
    if 0 ≤ r2 then
      (F_Rs_row r2 s).bind fun r3 =>
      if ss_ok2 s r3 5 = true then
        if x1 = (-1 : Int32) then
          F_Ca_takenBy_b67 s (F_Ca_takenBy_b15 s n) x1 x3 x4 x6 r2 r3
        else
        if (s.1 r3 2) = x1 then
          F_Ca_takenBy_b67 s (F_Ca_takenBy_b15 s n) x1 x3 x4 x6 r2 r3
        else
        F_Ca_takenBy_b77 s (F_Ca_takenBy_b15 s n) x1 x3 x4 x6 r3
      else none
    else
    some x3
theorem V_Ca_takenBy_b15 (E : sv_E) (d : Nat) (s : sv_S) : ∀ (n : Nat) (x1 : Int32) (x3 : Int32) (x4 : Int32) (x5 : Int32) (x6 : Int32), sv_V E m_Ca_takenBy (d + 2) (ss_pi s) 15 [(0, sv_r E 159), (1, .int x1), (3, .int x3), (4, .int x4), (5, .int x5), (6, .int x6)] [] (ss_e s) (F_Ca_takenBy_b15 s n x1 x3 x4 x5 x6) := by
  intro n
  induction n with
  | zero => intro x1 x3 x4 x5 x6; exact sv_none
  | succ n ih =>
    intro x1 x3 x4 x5 x6
    unfold F_Ca_takenBy_b15
    refine sv_iload (pc := 15) 5 (sv_d k_Ca_takenBy 10 rfl) rfl ?_
    refine sv_iload (pc := 17) 3 (sv_d k_Ca_takenBy 11 rfl) rfl ?_
    refine sv_icmp_ge (pc := 19) (tgt := 90) (sv_d k_Ca_takenBy 12 rfl) (by decide) ?_ ?_
    · refine sv_iload_n (pc := 90) 2 (sv_d k_Ca_takenBy 48 rfl) rfl rfl ?_
      exact sv_ret (pc := 91) (sv_d k_Ca_takenBy 49 rfl) ⟨_, rfl, rfl⟩ rfl
    · refine sv_aload_n (pc := 22) 0 (sv_d k_Ca_takenBy 13 rfl) rfl rfl ?_
      refine sv_iload (pc := 23) 4 (sv_d k_Ca_takenBy 14 rfl) rfl ?_
      refine sv_iload (pc := 25) 3 (sv_d k_Ca_takenBy 15 rfl) rfl ?_
      refine sv_iload (pc := 27) 5 (sv_d k_Ca_takenBy 16 rfl) rfl ?_
      refine sv_isub (pc := 29) (sv_d k_Ca_takenBy 17 rfl) ?_
      refine sv_callV (pc := 30) (ψ := (ss_pi s)) (As := [.int x5, .int (x4 - x6)]) (rest := []) (c := 159) (sv_d k_Ca_takenBy 18 rfl) g_Ca_firstLeg w1081 in_Ca_firstLeg se_Ca_firstLeg cf1 kd159 (ss_lt (by decide)) rfl (Nat.le_of_ble_eq_true rfl) (V_Ca_firstLeg E (d + 0) x5 (x4 - x6) s) (Nat.le_of_ble_eq_true rfl) rfl (fun r2 => ?_)
      show sv_V E _ _ _ 33 _ [.int r2] (ss_e s) _
      refine sv_istore (pc := 33) (lv' := [(7, .int r2), (0, sv_r E 159), (1, .int x1), (3, .int x3), (4, .int x4), (5, .int x5), (6, .int x6)]) (sv_d k_Ca_takenBy 19 rfl) (by decide) rfl ?_
      refine sv_iload (pc := 35) 0 (sv_d k_Ca_takenBy 20 rfl) rfl ?_
      refine sv_if_ge (pc := 37) (tgt := 42) (sv_d k_Ca_takenBy 21 rfl) (by decide) ?_ ?_
      · refine sv_aload_n (pc := 42) 1 (sv_d k_Ca_takenBy 24 rfl) rfl rfl ?_
        refine sv_getf (pc := 43) 0 (sv_d k_Ca_takenBy 25 rfl) cf1 (by decide) w392 kd159 (ss_lt (by decide)) (lr_159_0 E _) ?_
        refine sv_iload (pc := 46) 0 (sv_d k_Ca_takenBy 26 rfl) rfl ?_
        refine sv_callV (pc := 48) (ψ := (ss_pq E s)) (As := [.int r2]) (rest := []) (c := 88) (sv_d k_Ca_takenBy 27 rfl) g_Rs_row w1056 in_Rs_row se_Rs_row cf6 kd88 (ss_lt (by decide)) rfl (Nat.le_of_ble_eq_true rfl) (V_Rs_row E (d + 1) r2 s) (Nat.le_of_ble_eq_true rfl) rfl (fun r3 => ?_)
        show sv_V E _ _ _ 51 _ [sv_r E r3] (ss_e s) _
        refine ss_gd2 (fun h_g4 o_g4 l_g4 => ?_)
        refine sv_astore (pc := 51) (lv' := [(8, sv_r E r3), (7, .int r2), (0, sv_r E 159), (1, .int x1), (3, .int x3), (4, .int x4), (5, .int x5), (6, .int x6)]) (sv_d k_Ca_takenBy 28 rfl) (by decide) rfl ?_
        refine sv_iload_n (pc := 53) 3 (sv_d k_Ca_takenBy 29 rfl) rfl rfl ?_
        refine sv_iconst (pc := 54) (v := (-1 : Int32)) (sv_d k_Ca_takenBy 30 rfl) (by decide) ?_
        refine sv_icmp_eq (pc := 55) (tgt := 67) (sv_d k_Ca_takenBy 31 rfl) (by decide) ?_ ?_
        · exact sv_loc [2, 3, 4, 5, 7, 1, 0] rfl (V_Ca_takenBy_b67 E d s (F_Ca_takenBy_b15 s n) ih x1 x3 x4 x6 r2 r3 h_g4 o_g4 l_g4)
        · refine sv_aload (pc := 58) 0 (sv_d k_Ca_takenBy 32 rfl) rfl ?_
          refine sv_getN (pc := 60) 2 (sv_d k_Ca_takenBy 33 rfl) cf5 (by decide) w269 h_g4 l_g4 rfl ?_
          refine sv_iload_n (pc := 63) 3 (sv_d k_Ca_takenBy 34 rfl) rfl rfl ?_
          refine sv_icmp_ne (pc := 64) (tgt := 77) (sv_d k_Ca_takenBy 35 rfl) (by decide) ?_ ?_
          · exact sv_loc [2, 3, 4, 5, 7, 0] rfl (V_Ca_takenBy_b77 E d s (F_Ca_takenBy_b15 s n) ih x1 x3 x4 x6 r3 h_g4 o_g4 l_g4)
          · exact sv_loc [2, 3, 4, 5, 7, 1, 0] rfl (V_Ca_takenBy_b67 E d s (F_Ca_takenBy_b15 s n) ih x1 x3 x4 x6 r2 r3 h_g4 o_g4 l_g4)
      · refine sv_iload_n (pc := 40) 3 (sv_d k_Ca_takenBy 22 rfl) rfl rfl ?_
        exact sv_ret (pc := 41) (sv_d k_Ca_takenBy 23 rfl) ⟨_, rfl, rfl⟩ rfl
def F_Ca_takenBy (x1 : Int32) (x2 : Int32) (s : sv_S) : Option (Int32) :=
  (F_Ca_legsFrom x2 s).bind fun r1 =>
  F_Ca_takenBy_b15 s ss_F x1 (0 : Int32) r1 x2 (0 : Int32)
theorem V_Ca_takenBy (E : sv_E) (d : Nat) (x1 : Int32) (x2 : Int32) (s : sv_S) : sv_V E m_Ca_takenBy (d + 2) (ss_pi s) 0 (lv_args 0 [sv_r E 159, .int x1, .int x2]) [] (ss_e s) (F_Ca_takenBy x1 x2 s) := by
  show sv_V E m_Ca_takenBy (d + 2) (ss_pi s) 0 [(0, sv_r E 159), (1, .int x1), (2, .int x2)] [] (ss_e s) _
  unfold F_Ca_takenBy
  refine sv_iconst (pc := 0) (v := (0 : Int32)) (sv_d k_Ca_takenBy 0 rfl) (by decide) ?_
  refine sv_istore_n (pc := 1) (lv' := [(3, .int (0 : Int32)), (0, sv_r E 159), (1, .int x1), (2, .int x2)]) (sv_d k_Ca_takenBy 1 rfl) rfl (by decide) rfl ?_
  refine sv_aload_n (pc := 2) 1 (sv_d k_Ca_takenBy 2 rfl) rfl rfl ?_
  refine sv_iload_n (pc := 3) 3 (sv_d k_Ca_takenBy 3 rfl) rfl rfl ?_
  refine sv_callV (pc := 4) (ψ := (ss_pi s)) (As := [.int x2]) (rest := []) (c := 159) (sv_d k_Ca_takenBy 4 rfl) g_Ca_legsFrom w1080 in_Ca_legsFrom se_Ca_legsFrom cf1 kd159 (ss_lt (by decide)) rfl (Nat.le_of_ble_eq_true rfl) (V_Ca_legsFrom E (d + 1) x2 s) (Nat.le_of_ble_eq_true rfl) rfl (fun r1 => ?_)
  show sv_V E _ _ _ 7 _ [.int r1] (ss_e s) _
  refine sv_istore (pc := 7) (lv' := [(4, .int r1), (3, .int (0 : Int32)), (0, sv_r E 159), (1, .int x1), (2, .int x2)]) (sv_d k_Ca_takenBy 5 rfl) (by decide) rfl ?_
  refine sv_iload_n (pc := 9) 4 (sv_d k_Ca_takenBy 6 rfl) rfl rfl ?_
  refine sv_istore (pc := 10) (lv' := [(5, .int x2), (4, .int r1), (3, .int (0 : Int32)), (0, sv_r E 159), (1, .int x1), (2, .int x2)]) (sv_d k_Ca_takenBy 7 rfl) (by decide) rfl ?_
  refine sv_iconst (pc := 12) (v := (0 : Int32)) (sv_d k_Ca_takenBy 8 rfl) (by decide) ?_
  refine sv_istore (pc := 13) (lv' := [(6, .int (0 : Int32)), (5, .int x2), (4, .int r1), (3, .int (0 : Int32)), (0, sv_r E 159), (1, .int x1), (2, .int x2)]) (sv_d k_Ca_takenBy 9 rfl) (by decide) rfl ?_
  exact sv_loc [4, 5, 3, 2, 1, 0] rfl (V_Ca_takenBy_b15 E d s ss_F x1 (0 : Int32) r1 x2 (0 : Int32))
/-! Wa_has -/
abbrev m_Wa_has : sv_M := (yX10_has, cX10_has, 2, (some .boolean))
def t_Wa_has : List (Nat × Instr × Nat) := [(0, .iload_n 1, 1), (1, .ifCond .lt 15, 3), (4, .iload_n 1, 1), (5, .aload_n 0, 1), (6, .getfield 53, 3), (9, .if_icmp .ge 7, 3), (12, .iconst 1, 1), (13, .goto 4, 3), (16, .iconst 0, 1), (17, .ireturn, 1)]
theorem k_Wa_has : sv_tk m_Wa_has.2.1 t_Wa_has := by decide +kernel
theorem g_Wa_has : sv_G m_Wa_has 1 := ⟨by decide +kernel, sv_in 1108 (by decide +kernel) rfl, sv_in 100 (by decide +kernel) rfl, ⟨by decide, by decide⟩, by decide +kernel, by decide⟩
theorem in_Wa_has : Cond.instanceMethod m_Wa_has.1 ∈ sv_T := sv_in 1106 (by decide +kernel) rfl
theorem se_Wa_has : Cond.selects m_Wa_has.1.cls m_Wa_has.1 m_Wa_has.1 ∈ sv_T := sv_in 1107 (by decide +kernel) rfl
def F_Wa_has (x1 : Int32) (s : sv_S) : Option (Int32) :=
  if x1 < 0 then
    some (0 : Int32)
  else
  if (s.1 163 13) ≤ x1 then
    some (0 : Int32)
  else
  some (1 : Int32)
theorem V_Wa_has (E : sv_E) (d : Nat) (x1 : Int32) (s : sv_S) : sv_V E m_Wa_has (d + 0) (ss_pi s) 0 (lv_args 0 [sv_r E 163, .int x1]) [] (ss_e s) (F_Wa_has x1 s) := by
  show sv_V E m_Wa_has (d + 0) (ss_pi s) 0 [(0, sv_r E 163), (1, .int x1)] [] (ss_e s) _
  unfold F_Wa_has
  refine sv_iload_n (pc := 0) 1 (sv_d k_Wa_has 0 rfl) rfl rfl ?_
  refine sv_if_lt (pc := 1) (tgt := 16) (sv_d k_Wa_has 1 rfl) (by decide) ?_ ?_
  · refine sv_iconst (pc := 16) (v := (0 : Int32)) (sv_d k_Wa_has 8 rfl) (by decide) ?_
    exact sv_ret (pc := 17) (sv_d k_Wa_has 9 rfl) ⟨_, rfl, rfl⟩ rfl
  · refine sv_iload_n (pc := 4) 1 (sv_d k_Wa_has 2 rfl) rfl rfl ?_
    refine sv_aload_n (pc := 5) 0 (sv_d k_Wa_has 3 rfl) rfl rfl ?_
    refine sv_getf (pc := 6) 13 (sv_d k_Wa_has 4 rfl) cf10 (by decide) w431 kd163 (ss_lt (by decide)) rfl ?_
    refine sv_icmp_ge (pc := 9) (tgt := 16) (sv_d k_Wa_has 5 rfl) (by decide) ?_ ?_
    · refine sv_iconst (pc := 16) (v := (0 : Int32)) (sv_d k_Wa_has 8 rfl) (by decide) ?_
      exact sv_ret (pc := 17) (sv_d k_Wa_has 9 rfl) ⟨_, rfl, rfl⟩ rfl
    · refine sv_iconst (pc := 12) (v := (1 : Int32)) (sv_d k_Wa_has 6 rfl) (by decide) ?_
      refine sv_goto (pc := 13) (tgt := 17) (sv_d k_Wa_has 7 rfl) (by decide) ?_
      exact sv_ret (pc := 17) (sv_d k_Wa_has 9 rfl) ⟨_, rfl, rfl⟩ rfl
/-! Wa_areFull -/
abbrev m_Wa_areFull : sv_M := (yX10_areFull, cX10_areFull, 1, (some .boolean))
def t_Wa_areFull : List (Nat × Instr × Nat) := [(0, .aload_n 0, 1), (1, .getfield 53, 3), (4, .bipush 20, 2), (6, .if_icmp .lt 7, 3), (9, .iconst 1, 1), (10, .goto 4, 3), (13, .iconst 0, 1), (14, .ireturn, 1)]
theorem k_Wa_areFull : sv_tk m_Wa_areFull.2.1 t_Wa_areFull := by decide +kernel
theorem g_Wa_areFull : sv_G m_Wa_areFull 0 := ⟨by decide +kernel, sv_in 1096 (by decide +kernel) rfl, sv_in 100 (by decide +kernel) rfl, ⟨by decide, by decide⟩, by decide +kernel, by decide⟩
theorem in_Wa_areFull : Cond.instanceMethod m_Wa_areFull.1 ∈ sv_T := sv_in 1094 (by decide +kernel) rfl
theorem se_Wa_areFull : Cond.selects m_Wa_areFull.1.cls m_Wa_areFull.1 m_Wa_areFull.1 ∈ sv_T := sv_in 1095 (by decide +kernel) rfl
def F_Wa_areFull (s : sv_S) : Option (Int32) :=
  if (s.1 163 13) < (20 : Int32) then
    some (0 : Int32)
  else
  some (1 : Int32)
theorem V_Wa_areFull (E : sv_E) (d : Nat) (s : sv_S) : sv_V E m_Wa_areFull (d + 0) (ss_pi s) 0 (lv_args 0 [sv_r E 163]) [] (ss_e s) (F_Wa_areFull s) := by
  show sv_V E m_Wa_areFull (d + 0) (ss_pi s) 0 [(0, sv_r E 163)] [] (ss_e s) _
  unfold F_Wa_areFull
  refine sv_aload_n (pc := 0) 0 (sv_d k_Wa_areFull 0 rfl) rfl rfl ?_
  refine sv_getf (pc := 1) 13 (sv_d k_Wa_areFull 1 rfl) cf10 (by decide) w431 kd163 (ss_lt (by decide)) rfl ?_
  refine sv_bipush (pc := 4) (v := (20 : Int32)) (sv_d k_Wa_areFull 2 rfl) (by decide) ?_
  refine sv_icmp_lt (pc := 6) (tgt := 13) (sv_d k_Wa_areFull 3 rfl) (by decide) ?_ ?_
  · refine sv_iconst (pc := 13) (v := (0 : Int32)) (sv_d k_Wa_areFull 6 rfl) (by decide) ?_
    exact sv_ret (pc := 14) (sv_d k_Wa_areFull 7 rfl) ⟨_, rfl, rfl⟩ rfl
  · refine sv_iconst (pc := 9) (v := (1 : Int32)) (sv_d k_Wa_areFull 4 rfl) (by decide) ?_
    refine sv_goto (pc := 10) (tgt := 14) (sv_d k_Wa_areFull 5 rfl) (by decide) ?_
    exact sv_ret (pc := 14) (sv_d k_Wa_areFull 7 rfl) ⟨_, rfl, rfl⟩ rfl
/-! Wa_add -/
abbrev m_Wa_add : sv_M := (yX10_add, cX10_add, 6, (some .int))
def t_Wa_add : List (Nat × Instr × Nat) := [(0, .aload_n 0, 1), (1, .getfield 11, 3), (4, .aload_n 0, 1), (5, .getfield 53, 3), (8, .iload_n 1, 1), (9, .iastore, 1), (10, .aload_n 0, 1), (11, .getfield 15, 3), (14, .aload_n 0, 1), (15, .getfield 53, 3), (18, .iload_n 2, 1), (19, .iastore, 1), (20, .aload_n 0, 1), (21, .getfield 18, 3), (24, .aload_n 0, 1), (25, .getfield 53, 3), (28, .iload_n 3, 1), (29, .iastore, 1), (30, .aload_n 0, 1), (31, .getfield 21, 3), (34, .aload_n 0, 1), (35, .getfield 53, 3), (38, .iload 4, 2), (40, .iastore, 1), (41, .aload_n 0, 1), (42, .getfield 24, 3), (45, .aload_n 0, 1), (46, .getfield 53, 3), (49, .iload 5, 2), (51, .iastore, 1), (52, .aload_n 0, 1), (53, .dup, 1), (54, .getfield 53, 3), (57, .dup_x1, 1), (58, .iconst 1, 1), (59, .iadd, 1), (60, .putfield 53, 3), (63, .ireturn, 1)]
theorem k_Wa_add : sv_tk m_Wa_add.2.1 t_Wa_add := by decide +kernel
theorem g_Wa_add : sv_G m_Wa_add 5 := ⟨by decide +kernel, sv_in 1100 (by decide +kernel) rfl, sv_in 100 (by decide +kernel) rfl, ⟨by decide, by decide⟩, by decide +kernel, by decide⟩
theorem in_Wa_add : Cond.instanceMethod m_Wa_add.1 ∈ sv_T := sv_in 1098 (by decide +kernel) rfl
theorem se_Wa_add : Cond.selects m_Wa_add.1.cls m_Wa_add.1 m_Wa_add.1 ∈ sv_T := sv_in 1099 (by decide +kernel) rfl
def F_Wa_add (x1 : Int32) (x2 : Int32) (x3 : Int32) (x4 : Int32) (x5 : Int32) (s : sv_S) : Option (Int32 × sv_S) :=
  if sv_ib (s.1 163 13) 20 = true then
    ss_let (ss_setI s 164 (s.1 163 13).toNatClampNeg x1) fun s1 =>
    if sv_ib (s1.1 163 13) 20 = true then
      ss_let (ss_setI s1 165 (s1.1 163 13).toNatClampNeg x2) fun s2 =>
      if sv_ib (s2.1 163 13) 20 = true then
        ss_let (ss_setI s2 166 (s2.1 163 13).toNatClampNeg x3) fun s3 =>
        if sv_ib (s3.1 163 13) 20 = true then
          ss_let (ss_setI s3 167 (s3.1 163 13).toNatClampNeg x4) fun s4 =>
          if sv_ib (s4.1 163 13) 20 = true then
            ss_let (ss_setI s4 168 (s4.1 163 13).toNatClampNeg x5) fun s5 =>
            ss_let (ss_setI s5 163 13 ((s5.1 163 13) + (1 : Int32))) fun s6 =>
            some (s5.1 163 13, s6)
          else none
        else none
      else none
    else none
  else none
theorem V_Wa_add (E : sv_E) (d : Nat) (x1 : Int32) (x2 : Int32) (x3 : Int32) (x4 : Int32) (x5 : Int32) (s : sv_S) : sv_V E m_Wa_add (d + 0) ss_i 0 (lv_args 0 [sv_r E 163, .int x1, .int x2, .int x3, .int x4, .int x5]) [] (ss_e s) (F_Wa_add x1 x2 x3 x4 x5 s) := by
  show sv_V E m_Wa_add (d + 0) ss_i 0 [(0, sv_r E 163), (1, .int x1), (2, .int x2), (3, .int x3), (4, .int x4), (5, .int x5)] [] (ss_e s) _
  unfold F_Wa_add
  refine sv_aload_n (pc := 0) 0 (sv_d k_Wa_add 0 rfl) rfl rfl ?_
  refine sv_getf (pc := 1) 2 (sv_d k_Wa_add 1 rfl) cf10 (by decide) w420 kd163 (ss_lt (by decide)) (lr_163_2 E _) ?_
  refine sv_aload_n (pc := 4) 0 (sv_d k_Wa_add 2 rfl) rfl rfl ?_
  refine sv_getf (pc := 5) 13 (sv_d k_Wa_add 3 rfl) cf10 (by decide) w431 kd163 (ss_lt (by decide)) rfl ?_
  refine sv_iload_n (pc := 8) 1 (sv_d k_Wa_add 4 rfl) rfl rfl ?_
  refine ss_iast (pc := 9) (n := 20) (sv_d k_Wa_add 5 rfl) kd164 (by decide) (ss_lt (by decide)) rfl (ss_lets (fun s1 e_s1 => ?_))
  refine sv_aload_n (pc := 10) 0 (sv_d k_Wa_add 6 rfl) rfl rfl ?_
  refine sv_getf (pc := 11) 3 (sv_d k_Wa_add 7 rfl) cf10 (by decide) w421 kd163 (ss_lt (by decide)) (lr_163_3 E _) ?_
  refine sv_aload_n (pc := 14) 0 (sv_d k_Wa_add 8 rfl) rfl rfl ?_
  refine sv_getf (pc := 15) 13 (sv_d k_Wa_add 9 rfl) cf10 (by decide) w431 kd163 (ss_lt (by decide)) rfl ?_
  refine sv_iload_n (pc := 18) 2 (sv_d k_Wa_add 10 rfl) rfl rfl ?_
  refine ss_iast (pc := 19) (n := 20) (sv_d k_Wa_add 11 rfl) kd165 (by decide) (ss_lt (by decide)) rfl (ss_lets (fun s2 e_s2 => ?_))
  refine sv_aload_n (pc := 20) 0 (sv_d k_Wa_add 12 rfl) rfl rfl ?_
  refine sv_getf (pc := 21) 4 (sv_d k_Wa_add 13 rfl) cf10 (by decide) w422 kd163 (ss_lt (by decide)) (lr_163_4 E _) ?_
  refine sv_aload_n (pc := 24) 0 (sv_d k_Wa_add 14 rfl) rfl rfl ?_
  refine sv_getf (pc := 25) 13 (sv_d k_Wa_add 15 rfl) cf10 (by decide) w431 kd163 (ss_lt (by decide)) rfl ?_
  refine sv_iload_n (pc := 28) 3 (sv_d k_Wa_add 16 rfl) rfl rfl ?_
  refine ss_iast (pc := 29) (n := 20) (sv_d k_Wa_add 17 rfl) kd166 (by decide) (ss_lt (by decide)) rfl (ss_lets (fun s3 e_s3 => ?_))
  refine sv_aload_n (pc := 30) 0 (sv_d k_Wa_add 18 rfl) rfl rfl ?_
  refine sv_getf (pc := 31) 5 (sv_d k_Wa_add 19 rfl) cf10 (by decide) w423 kd163 (ss_lt (by decide)) (lr_163_5 E _) ?_
  refine sv_aload_n (pc := 34) 0 (sv_d k_Wa_add 20 rfl) rfl rfl ?_
  refine sv_getf (pc := 35) 13 (sv_d k_Wa_add 21 rfl) cf10 (by decide) w431 kd163 (ss_lt (by decide)) rfl ?_
  refine sv_iload (pc := 38) 4 (sv_d k_Wa_add 22 rfl) rfl ?_
  refine ss_iast (pc := 40) (n := 20) (sv_d k_Wa_add 23 rfl) kd167 (by decide) (ss_lt (by decide)) rfl (ss_lets (fun s4 e_s4 => ?_))
  refine sv_aload_n (pc := 41) 0 (sv_d k_Wa_add 24 rfl) rfl rfl ?_
  refine sv_getf (pc := 42) 6 (sv_d k_Wa_add 25 rfl) cf10 (by decide) w424 kd163 (ss_lt (by decide)) (lr_163_6 E _) ?_
  refine sv_aload_n (pc := 45) 0 (sv_d k_Wa_add 26 rfl) rfl rfl ?_
  refine sv_getf (pc := 46) 13 (sv_d k_Wa_add 27 rfl) cf10 (by decide) w431 kd163 (ss_lt (by decide)) rfl ?_
  refine sv_iload (pc := 49) 5 (sv_d k_Wa_add 28 rfl) rfl ?_
  refine ss_iast (pc := 51) (n := 20) (sv_d k_Wa_add 29 rfl) kd168 (by decide) (ss_lt (by decide)) rfl (ss_lets (fun s5 e_s5 => ?_))
  refine sv_aload_n (pc := 52) 0 (sv_d k_Wa_add 30 rfl) rfl rfl ?_
  refine sv_dup (pc := 53) (sv_d k_Wa_add 31 rfl) rfl ?_
  refine sv_getf (pc := 54) 13 (sv_d k_Wa_add 32 rfl) cf10 (by decide) w431 kd163 (ss_lt (by decide)) rfl ?_
  refine sv_dup_x1 (pc := 57) (sv_d k_Wa_add 33 rfl) rfl rfl ?_
  refine sv_iconst (pc := 58) (v := (1 : Int32)) (sv_d k_Wa_add 34 rfl) (by decide) ?_
  refine sv_iadd (pc := 59) (sv_d k_Wa_add 35 rfl) ?_
  refine ss_putI (pc := 60) 13 (sv_d k_Wa_add 36 rfl) cf10 (by decide) rfl w431 kd163 (ss_lt (by decide)) rfl rfl (fun _ => rfl) (ss_lets (fun s6 e_s6 => ?_))
  exact sv_ret (pc := 63) (sv_d k_Wa_add 37 rfl) ⟨_, rfl, rfl⟩ rfl
/-! Wa_isWorth -/
abbrev m_Wa_isWorth : sv_M := (yX10_isWorth, cX10_isWorth, 3, (some .boolean))
def t_Wa_isWorth : List (Nat × Instr × Nat) := [(0, .aload_n 0, 1), (1, .getfield 49, 3), (4, .aload_n 0, 1), (5, .getfield 15, 3), (8, .iload_n 1, 1), (9, .iaload, 1), (10, .invokevirtual 57, 3), (13, .aload_n 0, 1), (14, .getfield 49, 3), (17, .aload_n 0, 1), (18, .getfield 11, 3), (21, .iload_n 1, 1), (22, .iaload, 1), (23, .invokevirtual 63, 3), (26, .istore_n 2, 1), (27, .iload_n 2, 1), (28, .ifCond .lt 24, 3), (31, .iload_n 2, 1), (32, .aload_n 0, 1), (33, .getfield 21, 3), (36, .iload_n 1, 1), (37, .iaload, 1), (38, .aload_n 0, 1), (39, .getfield 24, 3), (42, .iload_n 1, 1), (43, .iaload, 1), (44, .imul, 1), (45, .if_icmp .gt 7, 3), (48, .iconst 1, 1), (49, .goto 4, 3), (52, .iconst 0, 1), (53, .ireturn, 1)]
theorem k_Wa_isWorth : sv_tk m_Wa_isWorth.2.1 t_Wa_isWorth := by decide +kernel
theorem g_Wa_isWorth : sv_G m_Wa_isWorth 1 := ⟨by decide +kernel, sv_in 1117 (by decide +kernel) rfl, sv_in 100 (by decide +kernel) rfl, ⟨by decide, by decide⟩, by decide +kernel, by decide⟩
theorem in_Wa_isWorth : Cond.instanceMethod m_Wa_isWorth.1 ∈ sv_T := sv_in 1116 (by decide +kernel) rfl
theorem se_Wa_isWorth : Cond.selects m_Wa_isWorth.1.cls m_Wa_isWorth.1 m_Wa_isWorth.1 ∈ sv_T := sv_in 26 (by decide +kernel) rfl
def F_Wa_isWorth (x1 : Int32) (s : sv_S) : Option (Int32 × sv_S) :=
  if sv_ib x1 20 = true then
    (F_Ca_reach (s.1 165 x1.toNatClampNeg) s).bind fun r1 =>
    if sv_ib x1 20 = true then
      (F_Ca_leastFrom (r1.1 164 x1.toNatClampNeg) r1).bind fun r2 =>
      if r2 < 0 then
        some ((0 : Int32), r1)
      else
      if sv_ib x1 20 = true then
        if sv_ib x1 20 = true then
          if ((r1.1 167 x1.toNatClampNeg) * (r1.1 168 x1.toNatClampNeg)) < r2 then
            some ((0 : Int32), r1)
          else
          some ((1 : Int32), r1)
        else none
      else none
    else none
  else none
theorem V_Wa_isWorth (E : sv_E) (d : Nat) (x1 : Int32) (s : sv_S) : sv_V E m_Wa_isWorth (d + 3) ss_i 0 (lv_args 0 [sv_r E 163, .int x1]) [] (ss_e s) (F_Wa_isWorth x1 s) := by
  show sv_V E m_Wa_isWorth (d + 3) ss_i 0 [(0, sv_r E 163), (1, .int x1)] [] (ss_e s) _
  unfold F_Wa_isWorth
  refine sv_aload_n (pc := 0) 0 (sv_d k_Wa_isWorth 0 rfl) rfl rfl ?_
  refine sv_getf (pc := 1) 1 (sv_d k_Wa_isWorth 1 rfl) cf10 (by decide) w419 kd163 (ss_lt (by decide)) (lr_163_1 E _) ?_
  refine sv_aload_n (pc := 4) 0 (sv_d k_Wa_isWorth 2 rfl) rfl rfl ?_
  refine sv_getf (pc := 5) 3 (sv_d k_Wa_isWorth 3 rfl) cf10 (by decide) w421 kd163 (ss_lt (by decide)) (lr_163_3 E _) ?_
  refine sv_iload_n (pc := 8) 1 (sv_d k_Wa_isWorth 4 rfl) rfl rfl ?_
  refine ss_iald (pc := 9) (n := 20) (sv_d k_Wa_isWorth 5 rfl) kd165 (ss_lt (by decide)) rfl ?_
  refine sv_callV (pc := 10) (ψ := ss_v) (As := [.int (s.1 165 x1.toNatClampNeg)]) (rest := []) (c := 159) (sv_d k_Wa_isWorth 6 rfl) g_Ca_reach w1118 in_Ca_reach se_Ca_reach cf1 kd159 (ss_lt (by decide)) rfl (Nat.le_of_ble_eq_true rfl) (V_Ca_reach E (d + 0) (s.1 165 x1.toNatClampNeg) s) (Nat.le_of_ble_eq_true rfl) rfl (fun r1 => ?_)
  show sv_V E _ _ _ 13 _ [] (ss_e r1) _
  refine sv_aload_n (pc := 13) 0 (sv_d k_Wa_isWorth 7 rfl) rfl rfl ?_
  refine sv_getf (pc := 14) 1 (sv_d k_Wa_isWorth 8 rfl) cf10 (by decide) w419 kd163 (ss_lt (by decide)) (lr_163_1 E _) ?_
  refine sv_aload_n (pc := 17) 0 (sv_d k_Wa_isWorth 9 rfl) rfl rfl ?_
  refine sv_getf (pc := 18) 2 (sv_d k_Wa_isWorth 10 rfl) cf10 (by decide) w420 kd163 (ss_lt (by decide)) (lr_163_2 E _) ?_
  refine sv_iload_n (pc := 21) 1 (sv_d k_Wa_isWorth 11 rfl) rfl rfl ?_
  refine ss_iald (pc := 22) (n := 20) (sv_d k_Wa_isWorth 12 rfl) kd164 (ss_lt (by decide)) rfl ?_
  refine sv_callV (pc := 23) (ψ := (ss_pi r1)) (As := [.int (r1.1 164 x1.toNatClampNeg)]) (rest := []) (c := 159) (sv_d k_Wa_isWorth 13 rfl) g_Ca_leastFrom w1119 in_Ca_leastFrom se_Ca_leastFrom cf1 kd159 (ss_lt (by decide)) rfl (Nat.le_of_ble_eq_true rfl) (V_Ca_leastFrom E (d + 2) (r1.1 164 x1.toNatClampNeg) r1) (Nat.le_of_ble_eq_true rfl) rfl (fun r2 => ?_)
  show sv_V E _ _ _ 26 _ [.int r2] (ss_e r1) _
  refine sv_istore_n (pc := 26) (lv' := [(2, .int r2), (0, sv_r E 163), (1, .int x1)]) (sv_d k_Wa_isWorth 14 rfl) rfl (by decide) rfl ?_
  refine sv_iload_n (pc := 27) 0 (sv_d k_Wa_isWorth 15 rfl) rfl rfl ?_
  refine sv_if_lt (pc := 28) (tgt := 52) (sv_d k_Wa_isWorth 16 rfl) (by decide) ?_ ?_
  · refine sv_iconst (pc := 52) (v := (0 : Int32)) (sv_d k_Wa_isWorth 30 rfl) (by decide) ?_
    exact sv_ret (pc := 53) (sv_d k_Wa_isWorth 31 rfl) ⟨_, rfl, rfl⟩ rfl
  · refine sv_iload_n (pc := 31) 0 (sv_d k_Wa_isWorth 17 rfl) rfl rfl ?_
    refine sv_aload_n (pc := 32) 1 (sv_d k_Wa_isWorth 18 rfl) rfl rfl ?_
    refine sv_getf (pc := 33) 5 (sv_d k_Wa_isWorth 19 rfl) cf10 (by decide) w423 kd163 (ss_lt (by decide)) (lr_163_5 E _) ?_
    refine sv_iload_n (pc := 36) 2 (sv_d k_Wa_isWorth 20 rfl) rfl rfl ?_
    refine ss_iald (pc := 37) (n := 20) (sv_d k_Wa_isWorth 21 rfl) kd167 (ss_lt (by decide)) rfl ?_
    refine sv_aload_n (pc := 38) 1 (sv_d k_Wa_isWorth 22 rfl) rfl rfl ?_
    refine sv_getf (pc := 39) 6 (sv_d k_Wa_isWorth 23 rfl) cf10 (by decide) w424 kd163 (ss_lt (by decide)) (lr_163_6 E _) ?_
    refine sv_iload_n (pc := 42) 2 (sv_d k_Wa_isWorth 24 rfl) rfl rfl ?_
    refine ss_iald (pc := 43) (n := 20) (sv_d k_Wa_isWorth 25 rfl) kd168 (ss_lt (by decide)) rfl ?_
    refine sv_imul (pc := 44) (sv_d k_Wa_isWorth 26 rfl) ?_
    refine sv_icmp_gt (pc := 45) (tgt := 52) (sv_d k_Wa_isWorth 27 rfl) (by decide) ?_ ?_
    · refine sv_iconst (pc := 52) (v := (0 : Int32)) (sv_d k_Wa_isWorth 30 rfl) (by decide) ?_
      exact sv_ret (pc := 53) (sv_d k_Wa_isWorth 31 rfl) ⟨_, rfl, rfl⟩ rfl
    · refine sv_iconst (pc := 48) (v := (1 : Int32)) (sv_d k_Wa_isWorth 28 rfl) (by decide) ?_
      refine sv_goto (pc := 49) (tgt := 53) (sv_d k_Wa_isWorth 29 rfl) (by decide) ?_
      exact sv_ret (pc := 53) (sv_d k_Wa_isWorth 31 rfl) ⟨_, rfl, rfl⟩ rfl
/-! Wa_goes -/
abbrev m_Wa_goes : sv_M := (yX10_goes, cX10_goes, 3, (some .boolean))
def t_Wa_goes : List (Nat × Instr × Nat) := [(0, .aload_n 0, 1), (1, .getfield 49, 3), (4, .aload_n 0, 1), (5, .getfield 18, 3), (8, .iload_n 1, 1), (9, .iaload, 1), (10, .aload_n 0, 1), (11, .getfield 21, 3), (14, .iload_n 1, 1), (15, .iaload, 1), (16, .iload_n 2, 1), (17, .invokevirtual 67, 3), (20, .aload_n 0, 1), (21, .iload_n 1, 1), (22, .invokevirtual 71, 3), (25, .ireturn, 1)]
theorem k_Wa_goes : sv_tk m_Wa_goes.2.1 t_Wa_goes := by decide +kernel
theorem g_Wa_goes : sv_G m_Wa_goes 2 := ⟨by decide +kernel, sv_in 1112 (by decide +kernel) rfl, sv_in 100 (by decide +kernel) rfl, ⟨by decide, by decide⟩, by decide +kernel, by decide⟩
theorem in_Wa_goes : Cond.instanceMethod m_Wa_goes.1 ∈ sv_T := sv_in 1110 (by decide +kernel) rfl
theorem se_Wa_goes : Cond.selects m_Wa_goes.1.cls m_Wa_goes.1 m_Wa_goes.1 ∈ sv_T := sv_in 1111 (by decide +kernel) rfl
def F_Wa_goes (x1 : Int32) (x2 : Int32) (s : sv_S) : Option (Int32 × sv_S) :=
  if sv_ib x1 20 = true then
    if sv_ib x1 20 = true then
      (F_Ca_price (s.1 166 x1.toNatClampNeg) (s.1 167 x1.toNatClampNeg) x2 s).bind fun r1 =>
      (F_Wa_isWorth x1 r1).bind fun r2 =>
      if sv_bl r2.1 = true then some (r2.1, r2.2) else none
    else none
  else none
theorem V_Wa_goes (E : sv_E) (d : Nat) (x1 : Int32) (x2 : Int32) (s : sv_S) : sv_V E m_Wa_goes (d + 4) ss_i 0 (lv_args 0 [sv_r E 163, .int x1, .int x2]) [] (ss_e s) (F_Wa_goes x1 x2 s) := by
  show sv_V E m_Wa_goes (d + 4) ss_i 0 [(0, sv_r E 163), (1, .int x1), (2, .int x2)] [] (ss_e s) _
  unfold F_Wa_goes
  refine sv_aload_n (pc := 0) 0 (sv_d k_Wa_goes 0 rfl) rfl rfl ?_
  refine sv_getf (pc := 1) 1 (sv_d k_Wa_goes 1 rfl) cf10 (by decide) w419 kd163 (ss_lt (by decide)) (lr_163_1 E _) ?_
  refine sv_aload_n (pc := 4) 0 (sv_d k_Wa_goes 2 rfl) rfl rfl ?_
  refine sv_getf (pc := 5) 4 (sv_d k_Wa_goes 3 rfl) cf10 (by decide) w422 kd163 (ss_lt (by decide)) (lr_163_4 E _) ?_
  refine sv_iload_n (pc := 8) 1 (sv_d k_Wa_goes 4 rfl) rfl rfl ?_
  refine ss_iald (pc := 9) (n := 20) (sv_d k_Wa_goes 5 rfl) kd166 (ss_lt (by decide)) rfl ?_
  refine sv_aload_n (pc := 10) 0 (sv_d k_Wa_goes 6 rfl) rfl rfl ?_
  refine sv_getf (pc := 11) 5 (sv_d k_Wa_goes 7 rfl) cf10 (by decide) w423 kd163 (ss_lt (by decide)) (lr_163_5 E _) ?_
  refine sv_iload_n (pc := 14) 1 (sv_d k_Wa_goes 8 rfl) rfl rfl ?_
  refine ss_iald (pc := 15) (n := 20) (sv_d k_Wa_goes 9 rfl) kd167 (ss_lt (by decide)) rfl ?_
  refine sv_iload_n (pc := 16) 2 (sv_d k_Wa_goes 10 rfl) rfl rfl ?_
  refine sv_callV (pc := 17) (ψ := ss_v) (As := [.int (s.1 166 x1.toNatClampNeg), .int (s.1 167 x1.toNatClampNeg), .int x2]) (rest := []) (c := 159) (sv_d k_Wa_goes 11 rfl) g_Ca_price w1113 in_Ca_price se_Ca_price cf1 kd159 (ss_lt (by decide)) rfl (Nat.le_of_ble_eq_true rfl) (V_Ca_price E (d + 0) (s.1 166 x1.toNatClampNeg) (s.1 167 x1.toNatClampNeg) x2 s) (Nat.le_of_ble_eq_true rfl) rfl (fun r1 => ?_)
  show sv_V E _ _ _ 20 _ [] (ss_e r1) _
  refine sv_aload_n (pc := 20) 0 (sv_d k_Wa_goes 12 rfl) rfl rfl ?_
  refine sv_iload_n (pc := 21) 1 (sv_d k_Wa_goes 13 rfl) rfl rfl ?_
  refine sv_callV (pc := 22) (ψ := ss_i) (As := [.int x1]) (rest := []) (c := 163) (sv_d k_Wa_goes 14 rfl) g_Wa_isWorth w1114 in_Wa_isWorth se_Wa_isWorth cf10 kd163 (ss_lt (by decide)) rfl (Nat.le_of_ble_eq_true rfl) (V_Wa_isWorth E (d + 0) x1 r1) (Nat.le_of_ble_eq_true rfl) rfl (fun r2 => ?_)
  show sv_V E _ _ _ 25 _ [.int r2.1] (ss_e r2.2) _
  exact ss_grd (fun bb3 => sv_ret (pc := 25) (sv_d k_Wa_goes 15 rfl) ⟨_, rfl, sv_bln bb3⟩ rfl)
/-! Wa_sumTaken -/
abbrev m_Wa_sumTaken : sv_M := (yX10_sumTaken, cX10_sumTaken, 5, (some .int))
def t_Wa_sumTaken : List (Nat × Instr × Nat) := [(0, .iconst 0, 1), (1, .istore_n 3, 1), (2, .iconst 0, 1), (3, .istore 4, 2), (5, .iload 4, 2), (7, .aload_n 0, 1), (8, .getfield 53, 3), (11, .if_icmp .ge 37, 3), (14, .aload_n 0, 1), (15, .iload 4, 2), (17, .iload_n 2, 1), (18, .invokevirtual 75, 3), (21, .ifCond .eq 21, 3), (24, .iload_n 3, 1), (25, .aload_n 0, 1), (26, .getfield 49, 3), (29, .iload_n 1, 1), (30, .aload_n 0, 1), (31, .getfield 11, 3), (34, .iload 4, 2), (36, .iaload, 1), (37, .invokevirtual 79, 3), (40, .iadd, 1), (41, .istore_n 3, 1), (42, .iinc 4 1, 3), (45, .goto (-40), 3), (48, .iload_n 3, 1), (49, .ireturn, 1)]
theorem k_Wa_sumTaken : sv_tk m_Wa_sumTaken.2.1 t_Wa_sumTaken := by decide +kernel
theorem g_Wa_sumTaken : sv_G m_Wa_sumTaken 2 := ⟨by decide +kernel, sv_in 1127 (by decide +kernel) rfl, sv_in 100 (by decide +kernel) rfl, ⟨by decide, by decide⟩, by decide +kernel, by decide⟩
theorem in_Wa_sumTaken : Cond.instanceMethod m_Wa_sumTaken.1 ∈ sv_T := sv_in 1125 (by decide +kernel) rfl
theorem se_Wa_sumTaken : Cond.selects m_Wa_sumTaken.1.cls m_Wa_sumTaken.1 m_Wa_sumTaken.1 ∈ sv_T := sv_in 1126 (by decide +kernel) rfl
def F_Wa_sumTaken_b42 (kc5 : Int32 → Int32 → Int32 → Int32 → sv_S → Option (Int32 × sv_S)) (x1 : Int32) (x2 : Int32) (x3 : Int32) (x4 : Int32) (s : sv_S) : Option (Int32 × sv_S) :=
  ss_let (x4 + (1 : Int32)) fun v2 =>
  kc5 x1 x2 x3 v2 s
theorem V_Wa_sumTaken_b42 (E : sv_E) (d : Nat) (kc5 : Int32 → Int32 → Int32 → Int32 → sv_S → Option (Int32 × sv_S)) (hc5 : ∀ (x1 : Int32) (x2 : Int32) (x3 : Int32) (x4 : Int32) (s : sv_S), sv_V E m_Wa_sumTaken (d + 5) ss_i 5 [(0, sv_r E 163), (1, .int x1), (2, .int x2), (3, .int x3), (4, .int x4)] [] (ss_e s) (kc5 x1 x2 x3 x4 s)) (x1 : Int32) (x2 : Int32) (x3 : Int32) (x4 : Int32) (s : sv_S) : sv_V E m_Wa_sumTaken (d + 5) ss_i 42 [(0, sv_r E 163), (1, .int x1), (2, .int x2), (3, .int x3), (4, .int x4)] [] (ss_e s) (F_Wa_sumTaken_b42 kc5 x1 x2 x3 x4 s) := by
  unfold F_Wa_sumTaken_b42
  refine ss_letr (fun v2 e_v2 => ?_)
  refine sv_iinc (pc := 42) (v := v2) (lv' := [(4, .int v2), (0, sv_r E 163), (1, .int x1), (2, .int x2), (3, .int x3)]) (sv_d k_Wa_sumTaken 24 rfl) (n := 4) rfl (by rw [e_v2]; rfl) (by decide) rfl ?_
  refine sv_goto (pc := 45) (tgt := 5) (sv_d k_Wa_sumTaken 25 rfl) (by decide) ?_
  exact sv_loc [1, 2, 3, 4, 0] rfl (hc5 x1 x2 x3 v2 s)
def F_Wa_sumTaken_b5 : Nat → Int32 → Int32 → Int32 → Int32 → sv_S → Option (Int32 × sv_S)
  | 0 => fun _ _ _ _ _ => none
  | n + 1 => fun x1 x2 x3 x4 s =>
    if (s.1 163 13) ≤ x4 then
      some (x3, s)
    else
    (F_Wa_goes x4 x2 s).bind fun r1 =>
    if r1.1 = 0 then
      F_Wa_sumTaken_b42 (F_Wa_sumTaken_b5  n) x1 x2 x3 x4 r1.2
    else
    if sv_ib x4 20 = true then
      (F_Ca_takenBy x1 (r1.2.1 164 x4.toNatClampNeg) r1.2).bind fun r3 =>
      ss_let (x3 + r3) fun v4 =>
      F_Wa_sumTaken_b42 (F_Wa_sumTaken_b5  n) x1 x2 v4 x4 r1.2
    else none
theorem V_Wa_sumTaken_b5 (E : sv_E) (d : Nat) : ∀ (n : Nat) (x1 : Int32) (x2 : Int32) (x3 : Int32) (x4 : Int32) (s : sv_S), sv_V E m_Wa_sumTaken (d + 5) ss_i 5 [(0, sv_r E 163), (1, .int x1), (2, .int x2), (3, .int x3), (4, .int x4)] [] (ss_e s) (F_Wa_sumTaken_b5 n x1 x2 x3 x4 s) := by
  intro n
  induction n with
  | zero => intro x1 x2 x3 x4 s; exact sv_none
  | succ n ih =>
    intro x1 x2 x3 x4 s
    unfold F_Wa_sumTaken_b5
    refine sv_iload (pc := 5) 4 (sv_d k_Wa_sumTaken 4 rfl) rfl ?_
    refine sv_aload_n (pc := 7) 0 (sv_d k_Wa_sumTaken 5 rfl) rfl rfl ?_
    refine sv_getf (pc := 8) 13 (sv_d k_Wa_sumTaken 6 rfl) cf10 (by decide) w431 kd163 (ss_lt (by decide)) rfl ?_
    refine sv_icmp_ge (pc := 11) (tgt := 48) (sv_d k_Wa_sumTaken 7 rfl) (by decide) ?_ ?_
    · refine sv_iload_n (pc := 48) 3 (sv_d k_Wa_sumTaken 26 rfl) rfl rfl ?_
      exact sv_ret (pc := 49) (sv_d k_Wa_sumTaken 27 rfl) ⟨_, rfl, rfl⟩ rfl
    · refine sv_aload_n (pc := 14) 0 (sv_d k_Wa_sumTaken 8 rfl) rfl rfl ?_
      refine sv_iload (pc := 15) 4 (sv_d k_Wa_sumTaken 9 rfl) rfl ?_
      refine sv_iload_n (pc := 17) 2 (sv_d k_Wa_sumTaken 10 rfl) rfl rfl ?_
      refine sv_callV (pc := 18) (ψ := ss_i) (As := [.int x4, .int x2]) (rest := []) (c := 163) (sv_d k_Wa_sumTaken 11 rfl) g_Wa_goes w1128 in_Wa_goes se_Wa_goes cf10 kd163 (ss_lt (by decide)) rfl (Nat.le_of_ble_eq_true rfl) (V_Wa_goes E (d + 0) x4 x2 s) (Nat.le_of_ble_eq_true rfl) rfl (fun r1 => ?_)
      show sv_V E _ _ _ 21 _ [.int r1.1] (ss_e r1.2) _
      refine sv_if_eq (pc := 21) (tgt := 42) (sv_d k_Wa_sumTaken 12 rfl) (by decide) ?_ ?_
      · exact sv_loc [0, 1, 2, 3, 4] rfl (V_Wa_sumTaken_b42 E d (F_Wa_sumTaken_b5  n) ih x1 x2 x3 x4 r1.2)
      · refine sv_iload_n (pc := 24) 3 (sv_d k_Wa_sumTaken 13 rfl) rfl rfl ?_
        refine sv_aload_n (pc := 25) 0 (sv_d k_Wa_sumTaken 14 rfl) rfl rfl ?_
        refine sv_getf (pc := 26) 1 (sv_d k_Wa_sumTaken 15 rfl) cf10 (by decide) w419 kd163 (ss_lt (by decide)) (lr_163_1 E _) ?_
        refine sv_iload_n (pc := 29) 1 (sv_d k_Wa_sumTaken 16 rfl) rfl rfl ?_
        refine sv_aload_n (pc := 30) 0 (sv_d k_Wa_sumTaken 17 rfl) rfl rfl ?_
        refine sv_getf (pc := 31) 2 (sv_d k_Wa_sumTaken 18 rfl) cf10 (by decide) w420 kd163 (ss_lt (by decide)) (lr_163_2 E _) ?_
        refine sv_iload (pc := 34) 4 (sv_d k_Wa_sumTaken 19 rfl) rfl ?_
        refine ss_iald (pc := 36) (n := 20) (sv_d k_Wa_sumTaken 20 rfl) kd164 (ss_lt (by decide)) rfl ?_
        refine sv_callV (pc := 37) (ψ := (ss_pi r1.2)) (As := [.int x1, .int (r1.2.1 164 x4.toNatClampNeg)]) (rest := [.int x3]) (c := 159) (sv_d k_Wa_sumTaken 21 rfl) g_Ca_takenBy w1129 in_Ca_takenBy se_Ca_takenBy cf1 kd159 (ss_lt (by decide)) rfl (Nat.le_of_ble_eq_true rfl) (V_Ca_takenBy E (d + 2) x1 (r1.2.1 164 x4.toNatClampNeg) r1.2) (Nat.le_of_ble_eq_true rfl) rfl (fun r3 => ?_)
        show sv_V E _ _ _ 40 _ [.int r3, .int x3] (ss_e r1.2) _
        refine sv_iadd (pc := 40) (sv_d k_Wa_sumTaken 22 rfl) ?_
        refine ss_top (fun v4 e_v4 => ?_)
        refine sv_istore_n (pc := 41) (lv' := [(3, .int v4), (0, sv_r E 163), (1, .int x1), (2, .int x2), (4, .int x4)]) (sv_d k_Wa_sumTaken 23 rfl) rfl (by decide) rfl ?_
        exact sv_loc [1, 2, 3, 0, 4] rfl (V_Wa_sumTaken_b42 E d (F_Wa_sumTaken_b5  n) ih x1 x2 v4 x4 r1.2)
def F_Wa_sumTaken (x1 : Int32) (x2 : Int32) (s : sv_S) : Option (Int32 × sv_S) :=
  F_Wa_sumTaken_b5 ss_F x1 x2 (0 : Int32) (0 : Int32) s
theorem V_Wa_sumTaken (E : sv_E) (d : Nat) (x1 : Int32) (x2 : Int32) (s : sv_S) : sv_V E m_Wa_sumTaken (d + 5) ss_i 0 (lv_args 0 [sv_r E 163, .int x1, .int x2]) [] (ss_e s) (F_Wa_sumTaken x1 x2 s) := by
  show sv_V E m_Wa_sumTaken (d + 5) ss_i 0 [(0, sv_r E 163), (1, .int x1), (2, .int x2)] [] (ss_e s) _
  unfold F_Wa_sumTaken
  refine sv_iconst (pc := 0) (v := (0 : Int32)) (sv_d k_Wa_sumTaken 0 rfl) (by decide) ?_
  refine sv_istore_n (pc := 1) (lv' := [(3, .int (0 : Int32)), (0, sv_r E 163), (1, .int x1), (2, .int x2)]) (sv_d k_Wa_sumTaken 1 rfl) rfl (by decide) rfl ?_
  refine sv_iconst (pc := 2) (v := (0 : Int32)) (sv_d k_Wa_sumTaken 2 rfl) (by decide) ?_
  refine sv_istore (pc := 3) (lv' := [(4, .int (0 : Int32)), (3, .int (0 : Int32)), (0, sv_r E 163), (1, .int x1), (2, .int x2)]) (sv_d k_Wa_sumTaken 3 rfl) (by decide) rfl ?_
  exact sv_loc [2, 3, 4, 1, 0] rfl (V_Wa_sumTaken_b5 E d ss_F x1 x2 (0 : Int32) (0 : Int32) s)
/-! Wa_isListed -/
abbrev m_Wa_isListed : sv_M := (yX10_isListed, cX10_isListed, 3, (some .boolean))
def t_Wa_isListed : List (Nat × Instr × Nat) := [(0, .iconst 0, 1), (1, .istore_n 2, 1), (2, .iload_n 2, 1), (3, .aload_n 0, 1), (4, .getfield 83, 3), (7, .if_icmp .ge 21, 3), (10, .aload_n 0, 1), (11, .getfield 27, 3), (14, .iload_n 2, 1), (15, .iaload, 1), (16, .iload_n 1, 1), (17, .if_icmp .ne 5, 3), (20, .iconst 1, 1), (21, .ireturn, 1), (22, .iinc 2 1, 3), (25, .goto (-23), 3), (28, .iconst 0, 1), (29, .ireturn, 1)]
theorem k_Wa_isListed : sv_tk m_Wa_isListed.2.1 t_Wa_isListed := by decide +kernel
theorem g_Wa_isListed : sv_G m_Wa_isListed 1 := ⟨by decide +kernel, sv_in 1144 (by decide +kernel) rfl, sv_in 100 (by decide +kernel) rfl, ⟨by decide, by decide⟩, by decide +kernel, by decide⟩
theorem in_Wa_isListed : Cond.instanceMethod m_Wa_isListed.1 ∈ sv_T := sv_in 1142 (by decide +kernel) rfl
theorem se_Wa_isListed : Cond.selects m_Wa_isListed.1.cls m_Wa_isListed.1 m_Wa_isListed.1 ∈ sv_T := sv_in 1143 (by decide +kernel) rfl
def F_Wa_isListed_b2 (s : sv_S) : Nat → Int32 → Int32 → Option (Int32)
  | 0 => fun _ _ => none
  | n + 1 => fun x1 x2 =>
    if (s.1 163 14) ≤ x2 then
      some (0 : Int32)
    else
    if sv_ib x2 10 = true then
      if (s.1 169 x2.toNatClampNeg) = x1 then
        some (1 : Int32)
      else
      ss_let (x2 + (1 : Int32)) fun v1 =>
      F_Wa_isListed_b2 s n x1 v1
    else none
theorem V_Wa_isListed_b2 (E : sv_E) (d : Nat) (s : sv_S) : ∀ (n : Nat) (x1 : Int32) (x2 : Int32), sv_V E m_Wa_isListed (d + 0) (ss_pi s) 2 [(0, sv_r E 163), (1, .int x1), (2, .int x2)] [] (ss_e s) (F_Wa_isListed_b2 s n x1 x2) := by
  intro n
  induction n with
  | zero => intro x1 x2; exact sv_none
  | succ n ih =>
    intro x1 x2
    unfold F_Wa_isListed_b2
    refine sv_iload_n (pc := 2) 2 (sv_d k_Wa_isListed 2 rfl) rfl rfl ?_
    refine sv_aload_n (pc := 3) 0 (sv_d k_Wa_isListed 3 rfl) rfl rfl ?_
    refine sv_getf (pc := 4) 14 (sv_d k_Wa_isListed 4 rfl) cf10 (by decide) w433 kd163 (ss_lt (by decide)) rfl ?_
    refine sv_icmp_ge (pc := 7) (tgt := 28) (sv_d k_Wa_isListed 5 rfl) (by decide) ?_ ?_
    · refine sv_iconst (pc := 28) (v := (0 : Int32)) (sv_d k_Wa_isListed 16 rfl) (by decide) ?_
      exact sv_ret (pc := 29) (sv_d k_Wa_isListed 17 rfl) ⟨_, rfl, rfl⟩ rfl
    · refine sv_aload_n (pc := 10) 0 (sv_d k_Wa_isListed 6 rfl) rfl rfl ?_
      refine sv_getf (pc := 11) 7 (sv_d k_Wa_isListed 7 rfl) cf10 (by decide) w425 kd163 (ss_lt (by decide)) (lr_163_7 E _) ?_
      refine sv_iload_n (pc := 14) 2 (sv_d k_Wa_isListed 8 rfl) rfl rfl ?_
      refine ss_iald (pc := 15) (n := 10) (sv_d k_Wa_isListed 9 rfl) kd169 (ss_lt (by decide)) rfl ?_
      refine sv_iload_n (pc := 16) 1 (sv_d k_Wa_isListed 10 rfl) rfl rfl ?_
      refine sv_icmp_ne (pc := 17) (tgt := 22) (sv_d k_Wa_isListed 11 rfl) (by decide) ?_ ?_
      · refine ss_letr (fun v1 e_v1 => ?_)
        refine sv_iinc (pc := 22) (v := v1) (lv' := [(2, .int v1), (0, sv_r E 163), (1, .int x1)]) (sv_d k_Wa_isListed 14 rfl) (n := 2) rfl (by rw [e_v1]; rfl) (by decide) rfl ?_
        refine sv_goto (pc := 25) (tgt := 2) (sv_d k_Wa_isListed 15 rfl) (by decide) ?_
        exact sv_loc [1, 2, 0] rfl (ih x1 v1)
      · refine sv_iconst (pc := 20) (v := (1 : Int32)) (sv_d k_Wa_isListed 12 rfl) (by decide) ?_
        exact sv_ret (pc := 21) (sv_d k_Wa_isListed 13 rfl) ⟨_, rfl, rfl⟩ rfl
def F_Wa_isListed (x1 : Int32) (s : sv_S) : Option (Int32) :=
  F_Wa_isListed_b2 s ss_F x1 (0 : Int32)
theorem V_Wa_isListed (E : sv_E) (d : Nat) (x1 : Int32) (s : sv_S) : sv_V E m_Wa_isListed (d + 0) (ss_pi s) 0 (lv_args 0 [sv_r E 163, .int x1]) [] (ss_e s) (F_Wa_isListed x1 s) := by
  show sv_V E m_Wa_isListed (d + 0) (ss_pi s) 0 [(0, sv_r E 163), (1, .int x1)] [] (ss_e s) _
  unfold F_Wa_isListed
  refine sv_iconst (pc := 0) (v := (0 : Int32)) (sv_d k_Wa_isListed 0 rfl) (by decide) ?_
  refine sv_istore_n (pc := 1) (lv' := [(2, .int (0 : Int32)), (0, sv_r E 163), (1, .int x1)]) (sv_d k_Wa_isListed 1 rfl) rfl (by decide) rfl ?_
  exact sv_loc [1, 2, 0] rfl (V_Wa_isListed_b2 E d s ss_F x1 (0 : Int32))
/-! Wa_listIsFull -/
abbrev m_Wa_listIsFull : sv_M := (yX10_listIsFull, cX10_listIsFull, 1, (some .boolean))
def t_Wa_listIsFull : List (Nat × Instr × Nat) := [(0, .aload_n 0, 1), (1, .getfield 83, 3), (4, .bipush 10, 2), (6, .if_icmp .lt 7, 3), (9, .iconst 1, 1), (10, .goto 4, 3), (13, .iconst 0, 1), (14, .ireturn, 1)]
theorem k_Wa_listIsFull : sv_tk m_Wa_listIsFull.2.1 t_Wa_listIsFull := by decide +kernel
theorem g_Wa_listIsFull : sv_G m_Wa_listIsFull 0 := ⟨by decide +kernel, sv_in 1148 (by decide +kernel) rfl, sv_in 100 (by decide +kernel) rfl, ⟨by decide, by decide⟩, by decide +kernel, by decide⟩
theorem in_Wa_listIsFull : Cond.instanceMethod m_Wa_listIsFull.1 ∈ sv_T := sv_in 1146 (by decide +kernel) rfl
theorem se_Wa_listIsFull : Cond.selects m_Wa_listIsFull.1.cls m_Wa_listIsFull.1 m_Wa_listIsFull.1 ∈ sv_T := sv_in 1147 (by decide +kernel) rfl
def F_Wa_listIsFull (s : sv_S) : Option (Int32) :=
  if (s.1 163 14) < (10 : Int32) then
    some (0 : Int32)
  else
  some (1 : Int32)
theorem V_Wa_listIsFull (E : sv_E) (d : Nat) (s : sv_S) : sv_V E m_Wa_listIsFull (d + 0) (ss_pi s) 0 (lv_args 0 [sv_r E 163]) [] (ss_e s) (F_Wa_listIsFull s) := by
  show sv_V E m_Wa_listIsFull (d + 0) (ss_pi s) 0 [(0, sv_r E 163)] [] (ss_e s) _
  unfold F_Wa_listIsFull
  refine sv_aload_n (pc := 0) 0 (sv_d k_Wa_listIsFull 0 rfl) rfl rfl ?_
  refine sv_getf (pc := 1) 14 (sv_d k_Wa_listIsFull 1 rfl) cf10 (by decide) w433 kd163 (ss_lt (by decide)) rfl ?_
  refine sv_bipush (pc := 4) (v := (10 : Int32)) (sv_d k_Wa_listIsFull 2 rfl) (by decide) ?_
  refine sv_icmp_lt (pc := 6) (tgt := 13) (sv_d k_Wa_listIsFull 3 rfl) (by decide) ?_ ?_
  · refine sv_iconst (pc := 13) (v := (0 : Int32)) (sv_d k_Wa_listIsFull 6 rfl) (by decide) ?_
    exact sv_ret (pc := 14) (sv_d k_Wa_listIsFull 7 rfl) ⟨_, rfl, rfl⟩ rfl
  · refine sv_iconst (pc := 9) (v := (1 : Int32)) (sv_d k_Wa_listIsFull 4 rfl) (by decide) ?_
    refine sv_goto (pc := 10) (tgt := 14) (sv_d k_Wa_listIsFull 5 rfl) (by decide) ?_
    exact sv_ret (pc := 14) (sv_d k_Wa_listIsFull 7 rfl) ⟨_, rfl, rfl⟩ rfl
/-! Wa_enlist -/
abbrev m_Wa_enlist : sv_M := (yX10_enlist, cX10_enlist, 2, (some .int))
def t_Wa_enlist : List (Nat × Instr × Nat) := [(0, .aload_n 0, 1), (1, .getfield 27, 3), (4, .aload_n 0, 1), (5, .dup, 1), (6, .getfield 83, 3), (9, .dup_x1, 1), (10, .iconst 1, 1), (11, .iadd, 1), (12, .putfield 83, 3), (15, .iload_n 1, 1), (16, .iastore, 1), (17, .aload_n 0, 1), (18, .getfield 83, 3), (21, .ireturn, 1)]
theorem k_Wa_enlist : sv_tk m_Wa_enlist.2.1 t_Wa_enlist := by decide +kernel
theorem g_Wa_enlist : sv_G m_Wa_enlist 1 := ⟨by decide +kernel, sv_in 1152 (by decide +kernel) rfl, sv_in 100 (by decide +kernel) rfl, ⟨by decide, by decide⟩, by decide +kernel, by decide⟩
theorem in_Wa_enlist : Cond.instanceMethod m_Wa_enlist.1 ∈ sv_T := sv_in 1150 (by decide +kernel) rfl
theorem se_Wa_enlist : Cond.selects m_Wa_enlist.1.cls m_Wa_enlist.1 m_Wa_enlist.1 ∈ sv_T := sv_in 1151 (by decide +kernel) rfl
def F_Wa_enlist (x1 : Int32) (s : sv_S) : Option (Int32 × sv_S) :=
  ss_let (ss_setI s 163 14 ((s.1 163 14) + (1 : Int32))) fun s1 =>
  if sv_ib (s.1 163 14) 10 = true then
    ss_let (ss_setI s1 169 (s.1 163 14).toNatClampNeg x1) fun s2 =>
    some (s2.1 163 14, s2)
  else none
theorem V_Wa_enlist (E : sv_E) (d : Nat) (x1 : Int32) (s : sv_S) : sv_V E m_Wa_enlist (d + 0) ss_i 0 (lv_args 0 [sv_r E 163, .int x1]) [] (ss_e s) (F_Wa_enlist x1 s) := by
  show sv_V E m_Wa_enlist (d + 0) ss_i 0 [(0, sv_r E 163), (1, .int x1)] [] (ss_e s) _
  unfold F_Wa_enlist
  refine sv_aload_n (pc := 0) 0 (sv_d k_Wa_enlist 0 rfl) rfl rfl ?_
  refine sv_getf (pc := 1) 7 (sv_d k_Wa_enlist 1 rfl) cf10 (by decide) w425 kd163 (ss_lt (by decide)) (lr_163_7 E _) ?_
  refine sv_aload_n (pc := 4) 0 (sv_d k_Wa_enlist 2 rfl) rfl rfl ?_
  refine sv_dup (pc := 5) (sv_d k_Wa_enlist 3 rfl) rfl ?_
  refine sv_getf (pc := 6) 14 (sv_d k_Wa_enlist 4 rfl) cf10 (by decide) w433 kd163 (ss_lt (by decide)) rfl ?_
  refine sv_dup_x1 (pc := 9) (sv_d k_Wa_enlist 5 rfl) rfl rfl ?_
  refine sv_iconst (pc := 10) (v := (1 : Int32)) (sv_d k_Wa_enlist 6 rfl) (by decide) ?_
  refine sv_iadd (pc := 11) (sv_d k_Wa_enlist 7 rfl) ?_
  refine ss_putI (pc := 12) 14 (sv_d k_Wa_enlist 8 rfl) cf10 (by decide) rfl w433 kd163 (ss_lt (by decide)) rfl rfl (fun _ => rfl) (ss_lets (fun s1 e_s1 => ?_))
  refine sv_iload_n (pc := 15) 1 (sv_d k_Wa_enlist 9 rfl) rfl rfl ?_
  refine ss_iast (pc := 16) (n := 10) (sv_d k_Wa_enlist 10 rfl) kd169 (by decide) (ss_lt (by decide)) rfl (ss_lets (fun s2 e_s2 => ?_))
  refine sv_aload_n (pc := 17) 0 (sv_d k_Wa_enlist 11 rfl) rfl rfl ?_
  refine sv_getf (pc := 18) 14 (sv_d k_Wa_enlist 12 rfl) cf10 (by decide) w433 kd163 (ss_lt (by decide)) rfl ?_
  exact sv_ret (pc := 21) (sv_d k_Wa_enlist 13 rfl) ⟨_, rfl, rfl⟩ rfl
/-! Wa_priceListed -/
abbrev m_Wa_priceListed : sv_M := (yX10_priceListed, cX10_priceListed, 6, (some .int))
def t_Wa_priceListed : List (Nat × Instr × Nat) := [(0, .iconst 0, 1), (1, .istore_n 3, 1), (2, .iconst 0, 1), (3, .istore 4, 2), (5, .iload 4, 2), (7, .aload_n 0, 1), (8, .getfield 83, 3), (11, .if_icmp .ge 107, 3), (14, .aload_n 0, 1), (15, .getfield 45, 3), (18, .aload_n 0, 1), (19, .getfield 27, 3), (22, .iload 4, 2), (24, .iaload, 1), (25, .invokevirtual 92, 3), (28, .astore 5, 2), (30, .aload_n 0, 1), (31, .getfield 33, 3), (34, .iload 4, 2), (36, .aload_n 0, 1), (37, .getfield 49, 3), (40, .getfield 121, 3), (43, .aload_n 0, 1), (44, .getfield 27, 3), (47, .iload 4, 2), (49, .iaload, 1), (50, .iaload, 1), (51, .iastore, 1), (52, .aload_n 0, 1), (53, .getfield 36, 3), (56, .iload 4, 2), (58, .aload_n 0, 1), (59, .getfield 45, 3), (62, .aload 5, 2), (64, .aload_n 0, 1), (65, .getfield 30, 3), (68, .iload 4, 2), (70, .iaload, 1), (71, .aload_n 0, 1), (72, .getfield 18, 3), (75, .iload_n 1, 1), (76, .iaload, 1), (77, .aload_n 0, 1), (78, .getfield 21, 3), (81, .iload_n 1, 1), (82, .iaload, 1), (83, .iload_n 2, 1), (84, .invokevirtual 124, 3), (87, .iastore, 1), (88, .aload_n 0, 1), (89, .getfield 33, 3), (92, .iload 4, 2), (94, .iaload, 1), (95, .aload_n 0, 1), (96, .getfield 36, 3), (99, .iload 4, 2), (101, .iaload, 1), (102, .if_icmp .eq 10, 3), (105, .iload_n 3, 1), (106, .iconst 1, 1), (107, .iload 4, 2), (109, .ishl, 1), (110, .ior, 1), (111, .istore_n 3, 1), (112, .iinc 4 1, 3), (115, .goto (-110), 3), (118, .iload_n 3, 1), (119, .ireturn, 1)]
theorem k_Wa_priceListed : sv_tk m_Wa_priceListed.2.1 t_Wa_priceListed := by decide +kernel
theorem g_Wa_priceListed : sv_G m_Wa_priceListed 2 := ⟨by decide +kernel, sv_in 1176 (by decide +kernel) rfl, sv_in 100 (by decide +kernel) rfl, ⟨by decide, by decide⟩, by decide +kernel, by decide⟩
theorem in_Wa_priceListed : Cond.instanceMethod m_Wa_priceListed.1 ∈ sv_T := sv_in 1175 (by decide +kernel) rfl
theorem se_Wa_priceListed : Cond.selects m_Wa_priceListed.1.cls m_Wa_priceListed.1 m_Wa_priceListed.1 ∈ sv_T := sv_in 28 (by decide +kernel) rfl
def F_Wa_priceListed_b112 (kc5 : Int32 → Int32 → Int32 → Int32 → sv_S → Option (Int32 × sv_S)) (x1 : Int32) (x2 : Int32) (x3 : Int32) (x4 : Int32) (s : sv_S) : Option (Int32 × sv_S) :=
  ss_let (x4 + (1 : Int32)) fun v6 =>
  kc5 x1 x2 x3 v6 s
theorem V_Wa_priceListed_b112 (E : sv_E) (d : Nat) (kc5 : Int32 → Int32 → Int32 → Int32 → sv_S → Option (Int32 × sv_S)) (hc5 : ∀ (x1 : Int32) (x2 : Int32) (x3 : Int32) (x4 : Int32) (s : sv_S), sv_V E m_Wa_priceListed (d + 3) ss_i 5 [(0, sv_r E 163), (1, .int x1), (2, .int x2), (3, .int x3), (4, .int x4)] [] (ss_e s) (kc5 x1 x2 x3 x4 s)) (x1 : Int32) (x2 : Int32) (x3 : Int32) (x4 : Int32) (s : sv_S) : sv_V E m_Wa_priceListed (d + 3) ss_i 112 [(0, sv_r E 163), (1, .int x1), (2, .int x2), (3, .int x3), (4, .int x4)] [] (ss_e s) (F_Wa_priceListed_b112 kc5 x1 x2 x3 x4 s) := by
  unfold F_Wa_priceListed_b112
  refine ss_letr (fun v6 e_v6 => ?_)
  refine sv_iinc (pc := 112) (v := v6) (lv' := [(4, .int v6), (0, sv_r E 163), (1, .int x1), (2, .int x2), (3, .int x3)]) (sv_d k_Wa_priceListed 64 rfl) (n := 4) rfl (by rw [e_v6]; rfl) (by decide) rfl ?_
  refine sv_goto (pc := 115) (tgt := 5) (sv_d k_Wa_priceListed 65 rfl) (by decide) ?_
  exact sv_loc [1, 2, 3, 4, 0] rfl (hc5 x1 x2 x3 v6 s)
def F_Wa_priceListed_b5 : Nat → Int32 → Int32 → Int32 → Int32 → sv_S → Option (Int32 × sv_S)
  | 0 => fun _ _ _ _ _ => none
  | n + 1 => fun x1 x2 x3 x4 s =>
    if (s.1 163 14) ≤ x4 then
      some (x3, s)
    else
    if sv_ib x4 10 = true then
      (F_Rs_row (s.1 169 x4.toNatClampNeg) s).bind fun r1 =>
      if ss_ok2 s r1 5 = true then
        if sv_ib x4 10 = true then
          if sv_ib (s.1 169 x4.toNatClampNeg) 60 = true then
            if sv_ib x4 10 = true then
              ss_let (ss_setI s 171 x4.toNatClampNeg (s.1 160 (s.1 169 x4.toNatClampNeg).toNatClampNeg)) fun s3 =>
              if sv_ib x4 10 = true then
                if sv_ib x1 20 = true then
                  if sv_ib x1 20 = true then
                    (F_Rs_fee r1 (s3.1 170 x4.toNatClampNeg) (s3.1 166 x1.toNatClampNeg) (s3.1 167 x1.toNatClampNeg) x2 s3).bind fun r4 =>
                    if sv_ib x4 10 = true then
                      ss_let (ss_setI r4.2 172 x4.toNatClampNeg r4.1) fun s5 =>
                      if sv_ib x4 10 = true then
                        if sv_ib x4 10 = true then
                          if (s5.1 171 x4.toNatClampNeg) = (s5.1 172 x4.toNatClampNeg) then
                            F_Wa_priceListed_b112 (F_Wa_priceListed_b5  n) x1 x2 x3 x4 s5
                          else
                          ss_let (x3 ||| ((1 : Int32) <<< (x4 &&& 31))) fun v7 =>
                          F_Wa_priceListed_b112 (F_Wa_priceListed_b5  n) x1 x2 v7 x4 s5
                        else none
                      else none
                    else none
                  else none
                else none
              else none
            else none
          else none
        else none
      else none
    else none
theorem V_Wa_priceListed_b5 (E : sv_E) (d : Nat) : ∀ (n : Nat) (x1 : Int32) (x2 : Int32) (x3 : Int32) (x4 : Int32) (s : sv_S), sv_V E m_Wa_priceListed (d + 3) ss_i 5 [(0, sv_r E 163), (1, .int x1), (2, .int x2), (3, .int x3), (4, .int x4)] [] (ss_e s) (F_Wa_priceListed_b5 n x1 x2 x3 x4 s) := by
  intro n
  induction n with
  | zero => intro x1 x2 x3 x4 s; exact sv_none
  | succ n ih =>
    intro x1 x2 x3 x4 s
    unfold F_Wa_priceListed_b5
    refine sv_iload (pc := 5) 4 (sv_d k_Wa_priceListed 4 rfl) rfl ?_
    refine sv_aload_n (pc := 7) 0 (sv_d k_Wa_priceListed 5 rfl) rfl rfl ?_
    refine sv_getf (pc := 8) 14 (sv_d k_Wa_priceListed 6 rfl) cf10 (by decide) w433 kd163 (ss_lt (by decide)) rfl ?_
    refine sv_icmp_ge (pc := 11) (tgt := 118) (sv_d k_Wa_priceListed 7 rfl) (by decide) ?_ ?_
    · refine sv_iload_n (pc := 118) 3 (sv_d k_Wa_priceListed 66 rfl) rfl rfl ?_
      exact sv_ret (pc := 119) (sv_d k_Wa_priceListed 67 rfl) ⟨_, rfl, rfl⟩ rfl
    · refine sv_aload_n (pc := 14) 0 (sv_d k_Wa_priceListed 8 rfl) rfl rfl ?_
      refine sv_getf (pc := 15) 0 (sv_d k_Wa_priceListed 9 rfl) cf10 (by decide) w418 kd163 (ss_lt (by decide)) (lr_163_0 E _) ?_
      refine sv_aload_n (pc := 18) 0 (sv_d k_Wa_priceListed 10 rfl) rfl rfl ?_
      refine sv_getf (pc := 19) 7 (sv_d k_Wa_priceListed 11 rfl) cf10 (by decide) w425 kd163 (ss_lt (by decide)) (lr_163_7 E _) ?_
      refine sv_iload (pc := 22) 4 (sv_d k_Wa_priceListed 12 rfl) rfl ?_
      refine ss_iald (pc := 24) (n := 10) (sv_d k_Wa_priceListed 13 rfl) kd169 (ss_lt (by decide)) rfl ?_
      refine sv_callV (pc := 25) (ψ := (ss_pq E s)) (As := [.int (s.1 169 x4.toNatClampNeg)]) (rest := []) (c := 88) (sv_d k_Wa_priceListed 14 rfl) g_Rs_row w1166 in_Rs_row se_Rs_row cf6 kd88 (ss_lt (by decide)) rfl (Nat.le_of_ble_eq_true rfl) (V_Rs_row E (d + 2) (s.1 169 x4.toNatClampNeg) s) (Nat.le_of_ble_eq_true rfl) rfl (fun r1 => ?_)
      show sv_V E _ _ _ 28 _ [sv_r E r1] (ss_e s) _
      refine ss_gd2 (fun h_g2 o_g2 l_g2 => ?_)
      refine sv_astore (pc := 28) (lv' := [(5, sv_r E r1), (0, sv_r E 163), (1, .int x1), (2, .int x2), (3, .int x3), (4, .int x4)]) (sv_d k_Wa_priceListed 15 rfl) (by decide) rfl ?_
      refine sv_aload_n (pc := 30) 1 (sv_d k_Wa_priceListed 16 rfl) rfl rfl ?_
      refine sv_getf (pc := 31) 9 (sv_d k_Wa_priceListed 17 rfl) cf10 (by decide) w427 kd163 (ss_lt (by decide)) (lr_163_9 E _) ?_
      refine sv_iload (pc := 34) 5 (sv_d k_Wa_priceListed 18 rfl) rfl ?_
      refine sv_aload_n (pc := 36) 1 (sv_d k_Wa_priceListed 19 rfl) rfl rfl ?_
      refine sv_getf (pc := 37) 1 (sv_d k_Wa_priceListed 20 rfl) cf10 (by decide) w419 kd163 (ss_lt (by decide)) (lr_163_1 E _) ?_
      refine sv_getN (pc := 40) 1 (sv_d k_Wa_priceListed 21 rfl) cf1 (by decide) w394 kd159 (ss_lt (by decide)) (lr_159_1 E _) ?_
      refine sv_aload_n (pc := 43) 1 (sv_d k_Wa_priceListed 22 rfl) rfl rfl ?_
      refine sv_getf (pc := 44) 7 (sv_d k_Wa_priceListed 23 rfl) cf10 (by decide) w425 kd163 (ss_lt (by decide)) (lr_163_7 E _) ?_
      refine sv_iload (pc := 47) 5 (sv_d k_Wa_priceListed 24 rfl) rfl ?_
      refine ss_iald (pc := 49) (n := 10) (sv_d k_Wa_priceListed 25 rfl) kd169 (ss_lt (by decide)) rfl ?_
      refine ss_iald (pc := 50) (n := 60) (sv_d k_Wa_priceListed 26 rfl) kd160 (ss_lt (by decide)) rfl ?_
      refine ss_iast (pc := 51) (n := 10) (sv_d k_Wa_priceListed 27 rfl) kd171 (by decide) (ss_lt (by decide)) rfl (ss_lets (fun s3 e_s3 => ?_))
      have l_g2 : r1 < 243 + s3.2.2.2.2.1 := by rw [e_s3]; exact l_g2
      refine sv_aload_n (pc := 52) 1 (sv_d k_Wa_priceListed 28 rfl) rfl rfl ?_
      refine sv_getf (pc := 53) 10 (sv_d k_Wa_priceListed 29 rfl) cf10 (by decide) w428 kd163 (ss_lt (by decide)) (lr_163_10 E _) ?_
      refine sv_iload (pc := 56) 5 (sv_d k_Wa_priceListed 30 rfl) rfl ?_
      refine sv_aload_n (pc := 58) 1 (sv_d k_Wa_priceListed 31 rfl) rfl rfl ?_
      refine sv_getf (pc := 59) 0 (sv_d k_Wa_priceListed 32 rfl) cf10 (by decide) w418 kd163 (ss_lt (by decide)) (lr_163_0 E _) ?_
      refine sv_aload (pc := 62) 0 (sv_d k_Wa_priceListed 33 rfl) rfl ?_
      refine sv_aload_n (pc := 64) 1 (sv_d k_Wa_priceListed 34 rfl) rfl rfl ?_
      refine sv_getf (pc := 65) 8 (sv_d k_Wa_priceListed 35 rfl) cf10 (by decide) w426 kd163 (ss_lt (by decide)) (lr_163_8 E _) ?_
      refine sv_iload (pc := 68) 5 (sv_d k_Wa_priceListed 36 rfl) rfl ?_
      refine ss_iald (pc := 70) (n := 10) (sv_d k_Wa_priceListed 37 rfl) kd170 (ss_lt (by decide)) rfl ?_
      refine sv_aload_n (pc := 71) 1 (sv_d k_Wa_priceListed 38 rfl) rfl rfl ?_
      refine sv_getf (pc := 72) 4 (sv_d k_Wa_priceListed 39 rfl) cf10 (by decide) w422 kd163 (ss_lt (by decide)) (lr_163_4 E _) ?_
      refine sv_iload_n (pc := 75) 2 (sv_d k_Wa_priceListed 40 rfl) rfl rfl ?_
      refine ss_iald (pc := 76) (n := 20) (sv_d k_Wa_priceListed 41 rfl) kd166 (ss_lt (by decide)) rfl ?_
      refine sv_aload_n (pc := 77) 1 (sv_d k_Wa_priceListed 42 rfl) rfl rfl ?_
      refine sv_getf (pc := 78) 5 (sv_d k_Wa_priceListed 43 rfl) cf10 (by decide) w423 kd163 (ss_lt (by decide)) (lr_163_5 E _) ?_
      refine sv_iload_n (pc := 81) 2 (sv_d k_Wa_priceListed 44 rfl) rfl rfl ?_
      refine ss_iald (pc := 82) (n := 20) (sv_d k_Wa_priceListed 45 rfl) kd167 (ss_lt (by decide)) rfl ?_
      refine sv_iload_n (pc := 83) 3 (sv_d k_Wa_priceListed 46 rfl) rfl rfl ?_
      refine sv_callV (pc := 84) (ψ := ss_i) (As := [sv_r E r1, .int (s3.1 170 x4.toNatClampNeg), .int (s3.1 166 x1.toNatClampNeg), .int (s3.1 167 x1.toNatClampNeg), .int x2]) (rest := [.int x4, sv_r E 172]) (c := 88) (sv_d k_Wa_priceListed 47 rfl) g_Rs_fee w1177 in_Rs_fee se_Rs_fee cf6 kd88 (ss_lt (by decide)) rfl (Nat.le_of_ble_eq_true rfl) (V_Rs_fee E (d + 0) r1 (s3.1 170 x4.toNatClampNeg) (s3.1 166 x1.toNatClampNeg) (s3.1 167 x1.toNatClampNeg) x2 s3 h_g2 o_g2 l_g2) (Nat.le_of_ble_eq_true rfl) rfl (fun r4 => ?_)
      show sv_V E _ _ _ 87 _ [.int r4.1, .int x4, sv_r E 172] (ss_e r4.2) _
      refine ss_iast (pc := 87) (n := 10) (sv_d k_Wa_priceListed 48 rfl) kd172 (by decide) (ss_lt (by decide)) rfl (ss_lets (fun s5 e_s5 => ?_))
      refine sv_aload_n (pc := 88) 1 (sv_d k_Wa_priceListed 49 rfl) rfl rfl ?_
      refine sv_getf (pc := 89) 9 (sv_d k_Wa_priceListed 50 rfl) cf10 (by decide) w427 kd163 (ss_lt (by decide)) (lr_163_9 E _) ?_
      refine sv_iload (pc := 92) 5 (sv_d k_Wa_priceListed 51 rfl) rfl ?_
      refine ss_iald (pc := 94) (n := 10) (sv_d k_Wa_priceListed 52 rfl) kd171 (ss_lt (by decide)) rfl ?_
      refine sv_aload_n (pc := 95) 1 (sv_d k_Wa_priceListed 53 rfl) rfl rfl ?_
      refine sv_getf (pc := 96) 10 (sv_d k_Wa_priceListed 54 rfl) cf10 (by decide) w428 kd163 (ss_lt (by decide)) (lr_163_10 E _) ?_
      refine sv_iload (pc := 99) 5 (sv_d k_Wa_priceListed 55 rfl) rfl ?_
      refine ss_iald (pc := 101) (n := 10) (sv_d k_Wa_priceListed 56 rfl) kd172 (ss_lt (by decide)) rfl ?_
      refine sv_icmp_eq (pc := 102) (tgt := 112) (sv_d k_Wa_priceListed 57 rfl) (by decide) ?_ ?_
      · exact sv_loc [1, 2, 3, 4, 5] rfl (V_Wa_priceListed_b112 E d (F_Wa_priceListed_b5  n) ih x1 x2 x3 x4 s5)
      · refine sv_iload_n (pc := 105) 4 (sv_d k_Wa_priceListed 58 rfl) rfl rfl ?_
        refine sv_iconst (pc := 106) (v := (1 : Int32)) (sv_d k_Wa_priceListed 59 rfl) (by decide) ?_
        refine sv_iload (pc := 107) 5 (sv_d k_Wa_priceListed 60 rfl) rfl ?_
        refine sv_ishl (pc := 109) (sv_d k_Wa_priceListed 61 rfl) ?_
        refine sv_ior (pc := 110) (sv_d k_Wa_priceListed 62 rfl) ?_
        refine ss_top (fun v7 e_v7 => ?_)
        refine sv_istore_n (pc := 111) (lv' := [(3, .int v7), (5, sv_r E r1), (0, sv_r E 163), (1, .int x1), (2, .int x2), (4, .int x4)]) (sv_d k_Wa_priceListed 63 rfl) rfl (by decide) rfl ?_
        exact sv_loc [2, 3, 4, 0, 5] rfl (V_Wa_priceListed_b112 E d (F_Wa_priceListed_b5  n) ih x1 x2 v7 x4 s5)
def F_Wa_priceListed (x1 : Int32) (x2 : Int32) (s : sv_S) : Option (Int32 × sv_S) :=
  F_Wa_priceListed_b5 ss_F x1 x2 (0 : Int32) (0 : Int32) s
theorem V_Wa_priceListed (E : sv_E) (d : Nat) (x1 : Int32) (x2 : Int32) (s : sv_S) : sv_V E m_Wa_priceListed (d + 3) ss_i 0 (lv_args 0 [sv_r E 163, .int x1, .int x2]) [] (ss_e s) (F_Wa_priceListed x1 x2 s) := by
  show sv_V E m_Wa_priceListed (d + 3) ss_i 0 [(0, sv_r E 163), (1, .int x1), (2, .int x2)] [] (ss_e s) _
  unfold F_Wa_priceListed
  refine sv_iconst (pc := 0) (v := (0 : Int32)) (sv_d k_Wa_priceListed 0 rfl) (by decide) ?_
  refine sv_istore_n (pc := 1) (lv' := [(3, .int (0 : Int32)), (0, sv_r E 163), (1, .int x1), (2, .int x2)]) (sv_d k_Wa_priceListed 1 rfl) rfl (by decide) rfl ?_
  refine sv_iconst (pc := 2) (v := (0 : Int32)) (sv_d k_Wa_priceListed 2 rfl) (by decide) ?_
  refine sv_istore (pc := 3) (lv' := [(4, .int (0 : Int32)), (3, .int (0 : Int32)), (0, sv_r E 163), (1, .int x1), (2, .int x2)]) (sv_d k_Wa_priceListed 3 rfl) (by decide) rfl ?_
  exact sv_loc [2, 3, 4, 1, 0] rfl (V_Wa_priceListed_b5 E d ss_F x1 x2 (0 : Int32) (0 : Int32) s)
/-! Wa_takenIfRaised -/
abbrev m_Wa_takenIfRaised : sv_M := (yX10_takenIfRaised, cX10_takenIfRaised, 5, (some .int))
def t_Wa_takenIfRaised : List (Nat × Instr × Nat) := [(0, .iconst 0, 1), (1, .istore_n 3, 1), (2, .iload_n 3, 1), (3, .aload_n 0, 1), (4, .getfield 83, 3), (7, .if_icmp .ge 59, 3), (10, .iload_n 2, 1), (11, .iload_n 3, 1), (12, .ishr, 1), (13, .iconst 1, 1), (14, .iand, 1), (15, .iconst 1, 1), (16, .if_icmp .ne 7, 3), (19, .iconst 1, 1), (20, .goto 4, 3), (23, .iconst 0, 1), (24, .istore 4, 2), (26, .aload_n 0, 1), (27, .getfield 49, 3), (30, .getfield 121, 3), (33, .aload_n 0, 1), (34, .getfield 27, 3), (37, .iload_n 3, 1), (38, .iaload, 1), (39, .iload 4, 2), (41, .ifCond .eq 12, 3), (44, .aload_n 0, 1), (45, .getfield 36, 3), (48, .iload_n 3, 1), (49, .iaload, 1), (50, .goto 9, 3), (53, .aload_n 0, 1), (54, .getfield 33, 3), (57, .iload_n 3, 1), (58, .iaload, 1), (59, .iastore, 1), (60, .iinc 3 1, 3), (63, .goto (-61), 3), (66, .aload_n 0, 1), (67, .iload_n 1, 1), (68, .invokevirtual 71, 3), (71, .ifCond .eq 19, 3), (74, .aload_n 0, 1), (75, .getfield 49, 3), (78, .aload_n 0, 1), (79, .getfield 11, 3), (82, .iload_n 1, 1), (83, .iaload, 1), (84, .invokevirtual 63, 3), (87, .goto 4, 3), (90, .iconst 0, 1), (91, .ireturn, 1)]
theorem k_Wa_takenIfRaised : sv_tk m_Wa_takenIfRaised.2.1 t_Wa_takenIfRaised := by decide +kernel
theorem g_Wa_takenIfRaised : sv_G m_Wa_takenIfRaised 2 := ⟨by decide +kernel, sv_in 1181 (by decide +kernel) rfl, sv_in 100 (by decide +kernel) rfl, ⟨by decide, by decide⟩, by decide +kernel, by decide⟩
theorem in_Wa_takenIfRaised : Cond.instanceMethod m_Wa_takenIfRaised.1 ∈ sv_T := sv_in 1180 (by decide +kernel) rfl
theorem se_Wa_takenIfRaised : Cond.selects m_Wa_takenIfRaised.1.cls m_Wa_takenIfRaised.1 m_Wa_takenIfRaised.1 ∈ sv_T := sv_in 29 (by decide +kernel) rfl
def F_Wa_takenIfRaised_b59 (kc2 : Int32 → Int32 → Int32 → sv_S → Option (Int32 × sv_S)) (x1 : Int32) (x2 : Int32) (x3 : Int32) (t1 : Int32) (t2 : Int32) (s : sv_S) : Option (Int32 × sv_S) :=
  if sv_ib t1 60 = true then
    ss_let (ss_setI s 160 t1.toNatClampNeg t2) fun s3 =>
    ss_let (x3 + (1 : Int32)) fun v4 =>
    kc2 x1 x2 v4 s3
  else none
theorem V_Wa_takenIfRaised_b59 (E : sv_E) (d : Nat) (kc2 : Int32 → Int32 → Int32 → sv_S → Option (Int32 × sv_S)) (hc2 : ∀ (x1 : Int32) (x2 : Int32) (x3 : Int32) (s : sv_S), sv_V E m_Wa_takenIfRaised (d + 4) ss_i 2 [(0, sv_r E 163), (1, .int x1), (2, .int x2), (3, .int x3)] [] (ss_e s) (kc2 x1 x2 x3 s)) (x1 : Int32) (x2 : Int32) (x3 : Int32) (t1 : Int32) (t2 : Int32) (s : sv_S) : sv_V E m_Wa_takenIfRaised (d + 4) ss_i 59 [(0, sv_r E 163), (1, .int x1), (2, .int x2), (3, .int x3)] [.int t2, .int t1, sv_r E 160] (ss_e s) (F_Wa_takenIfRaised_b59 kc2 x1 x2 x3 t1 t2 s) := by
  unfold F_Wa_takenIfRaised_b59
  refine ss_iast (pc := 59) (n := 60) (sv_d k_Wa_takenIfRaised 35 rfl) kd160 (by decide) (ss_lt (by decide)) rfl (ss_lets (fun s3 e_s3 => ?_))
  refine ss_letr (fun v4 e_v4 => ?_)
  refine sv_iinc (pc := 60) (v := v4) (lv' := [(3, .int v4), (0, sv_r E 163), (1, .int x1), (2, .int x2)]) (sv_d k_Wa_takenIfRaised 36 rfl) (n := 3) rfl (by rw [e_v4]; rfl) (by decide) rfl ?_
  refine sv_goto (pc := 63) (tgt := 2) (sv_d k_Wa_takenIfRaised 37 rfl) (by decide) ?_
  exact sv_loc [1, 2, 3, 0] rfl (hc2 x1 x2 v4 s3)
def F_Wa_takenIfRaised_b24 (kc2 : Int32 → Int32 → Int32 → sv_S → Option (Int32 × sv_S)) (x1 : Int32) (x2 : Int32) (x3 : Int32) (t0 : Int32) (s : sv_S) : Option (Int32 × sv_S) :=
  if sv_ib x3 10 = true then
    if t0 = 0 then
      if sv_ib x3 10 = true then
        F_Wa_takenIfRaised_b59 kc2 x1 x2 x3 (s.1 169 x3.toNatClampNeg) (s.1 171 x3.toNatClampNeg) s
      else none
    else
    if sv_ib x3 10 = true then
      F_Wa_takenIfRaised_b59 kc2 x1 x2 x3 (s.1 169 x3.toNatClampNeg) (s.1 172 x3.toNatClampNeg) s
    else none
  else none
theorem V_Wa_takenIfRaised_b24 (E : sv_E) (d : Nat) (kc2 : Int32 → Int32 → Int32 → sv_S → Option (Int32 × sv_S)) (hc2 : ∀ (x1 : Int32) (x2 : Int32) (x3 : Int32) (s : sv_S), sv_V E m_Wa_takenIfRaised (d + 4) ss_i 2 [(0, sv_r E 163), (1, .int x1), (2, .int x2), (3, .int x3)] [] (ss_e s) (kc2 x1 x2 x3 s)) (x1 : Int32) (x2 : Int32) (x3 : Int32) (t0 : Int32) (s : sv_S) : sv_V E m_Wa_takenIfRaised (d + 4) ss_i 24 [(0, sv_r E 163), (1, .int x1), (2, .int x2), (3, .int x3)] [.int t0] (ss_e s) (F_Wa_takenIfRaised_b24 kc2 x1 x2 x3 t0 s) := by
  unfold F_Wa_takenIfRaised_b24
  refine sv_istore (pc := 24) (lv' := [(4, .int t0), (0, sv_r E 163), (1, .int x1), (2, .int x2), (3, .int x3)]) (sv_d k_Wa_takenIfRaised 16 rfl) (by decide) rfl ?_
  refine sv_aload_n (pc := 26) 1 (sv_d k_Wa_takenIfRaised 17 rfl) rfl rfl ?_
  refine sv_getf (pc := 27) 1 (sv_d k_Wa_takenIfRaised 18 rfl) cf10 (by decide) w419 kd163 (ss_lt (by decide)) (lr_163_1 E _) ?_
  refine sv_getN (pc := 30) 1 (sv_d k_Wa_takenIfRaised 19 rfl) cf1 (by decide) w394 kd159 (ss_lt (by decide)) (lr_159_1 E _) ?_
  refine sv_aload_n (pc := 33) 1 (sv_d k_Wa_takenIfRaised 20 rfl) rfl rfl ?_
  refine sv_getf (pc := 34) 7 (sv_d k_Wa_takenIfRaised 21 rfl) cf10 (by decide) w425 kd163 (ss_lt (by decide)) (lr_163_7 E _) ?_
  refine sv_iload_n (pc := 37) 4 (sv_d k_Wa_takenIfRaised 22 rfl) rfl rfl ?_
  refine ss_iald (pc := 38) (n := 10) (sv_d k_Wa_takenIfRaised 23 rfl) kd169 (ss_lt (by decide)) rfl ?_
  refine sv_iload (pc := 39) 0 (sv_d k_Wa_takenIfRaised 24 rfl) rfl ?_
  refine sv_if_eq (pc := 41) (tgt := 53) (sv_d k_Wa_takenIfRaised 25 rfl) (by decide) ?_ ?_
  · refine sv_aload_n (pc := 53) 1 (sv_d k_Wa_takenIfRaised 31 rfl) rfl rfl ?_
    refine sv_getf (pc := 54) 9 (sv_d k_Wa_takenIfRaised 32 rfl) cf10 (by decide) w427 kd163 (ss_lt (by decide)) (lr_163_9 E _) ?_
    refine sv_iload_n (pc := 57) 4 (sv_d k_Wa_takenIfRaised 33 rfl) rfl rfl ?_
    refine ss_iald (pc := 58) (n := 10) (sv_d k_Wa_takenIfRaised 34 rfl) kd171 (ss_lt (by decide)) rfl ?_
    exact sv_loc [1, 2, 3, 4] rfl (V_Wa_takenIfRaised_b59 E d kc2 hc2 x1 x2 x3 (s.1 169 x3.toNatClampNeg) (s.1 171 x3.toNatClampNeg) s)
  · refine sv_aload_n (pc := 44) 1 (sv_d k_Wa_takenIfRaised 26 rfl) rfl rfl ?_
    refine sv_getf (pc := 45) 10 (sv_d k_Wa_takenIfRaised 27 rfl) cf10 (by decide) w428 kd163 (ss_lt (by decide)) (lr_163_10 E _) ?_
    refine sv_iload_n (pc := 48) 4 (sv_d k_Wa_takenIfRaised 28 rfl) rfl rfl ?_
    refine ss_iald (pc := 49) (n := 10) (sv_d k_Wa_takenIfRaised 29 rfl) kd172 (ss_lt (by decide)) rfl ?_
    refine sv_goto (pc := 50) (tgt := 59) (sv_d k_Wa_takenIfRaised 30 rfl) (by decide) ?_
    exact sv_loc [1, 2, 3, 4] rfl (V_Wa_takenIfRaised_b59 E d kc2 hc2 x1 x2 x3 (s.1 169 x3.toNatClampNeg) (s.1 172 x3.toNatClampNeg) s)
def F_Wa_takenIfRaised_b2 : Nat → Int32 → Int32 → Int32 → sv_S → Option (Int32 × sv_S)
  | 0 => fun _ _ _ _ => none
  | n + 1 => fun x1 x2 x3 s =>
    if (s.1 163 14) ≤ x3 then
      (F_Wa_isWorth x1 s).bind fun r1 =>
      if r1.1 = 0 then
        some ((0 : Int32), r1.2)
      else
      if sv_ib x1 20 = true then
        (F_Ca_leastFrom (r1.2.1 164 x1.toNatClampNeg) r1.2).bind fun r2 =>
        some (r2, r1.2)
      else none
    else
    if ((x2 >>> (x3 &&& 31)) &&& (1 : Int32)) = (1 : Int32) then
      F_Wa_takenIfRaised_b24 (F_Wa_takenIfRaised_b2  n) x1 x2 x3 (1 : Int32) s
    else
    F_Wa_takenIfRaised_b24 (F_Wa_takenIfRaised_b2  n) x1 x2 x3 (0 : Int32) s
theorem V_Wa_takenIfRaised_b2 (E : sv_E) (d : Nat) : ∀ (n : Nat) (x1 : Int32) (x2 : Int32) (x3 : Int32) (s : sv_S), sv_V E m_Wa_takenIfRaised (d + 4) ss_i 2 [(0, sv_r E 163), (1, .int x1), (2, .int x2), (3, .int x3)] [] (ss_e s) (F_Wa_takenIfRaised_b2 n x1 x2 x3 s) := by
  intro n
  induction n with
  | zero => intro x1 x2 x3 s; exact sv_none
  | succ n ih =>
    intro x1 x2 x3 s
    unfold F_Wa_takenIfRaised_b2
    refine sv_iload_n (pc := 2) 3 (sv_d k_Wa_takenIfRaised 2 rfl) rfl rfl ?_
    refine sv_aload_n (pc := 3) 0 (sv_d k_Wa_takenIfRaised 3 rfl) rfl rfl ?_
    refine sv_getf (pc := 4) 14 (sv_d k_Wa_takenIfRaised 4 rfl) cf10 (by decide) w433 kd163 (ss_lt (by decide)) rfl ?_
    refine sv_icmp_ge (pc := 7) (tgt := 66) (sv_d k_Wa_takenIfRaised 5 rfl) (by decide) ?_ ?_
    · refine sv_aload_n (pc := 66) 0 (sv_d k_Wa_takenIfRaised 38 rfl) rfl rfl ?_
      refine sv_iload_n (pc := 67) 1 (sv_d k_Wa_takenIfRaised 39 rfl) rfl rfl ?_
      refine sv_callV (pc := 68) (ψ := ss_i) (As := [.int x1]) (rest := []) (c := 163) (sv_d k_Wa_takenIfRaised 40 rfl) g_Wa_isWorth w1114 in_Wa_isWorth se_Wa_isWorth cf10 kd163 (ss_lt (by decide)) rfl (Nat.le_of_ble_eq_true rfl) (V_Wa_isWorth E (d + 0) x1 s) (Nat.le_of_ble_eq_true rfl) rfl (fun r1 => ?_)
      show sv_V E _ _ _ 71 _ [.int r1.1] (ss_e r1.2) _
      refine sv_if_eq (pc := 71) (tgt := 90) (sv_d k_Wa_takenIfRaised 41 rfl) (by decide) ?_ ?_
      · refine sv_iconst (pc := 90) (v := (0 : Int32)) (sv_d k_Wa_takenIfRaised 50 rfl) (by decide) ?_
        exact sv_ret (pc := 91) (sv_d k_Wa_takenIfRaised 51 rfl) ⟨_, rfl, rfl⟩ rfl
      · refine sv_aload_n (pc := 74) 0 (sv_d k_Wa_takenIfRaised 42 rfl) rfl rfl ?_
        refine sv_getf (pc := 75) 1 (sv_d k_Wa_takenIfRaised 43 rfl) cf10 (by decide) w419 kd163 (ss_lt (by decide)) (lr_163_1 E _) ?_
        refine sv_aload_n (pc := 78) 0 (sv_d k_Wa_takenIfRaised 44 rfl) rfl rfl ?_
        refine sv_getf (pc := 79) 2 (sv_d k_Wa_takenIfRaised 45 rfl) cf10 (by decide) w420 kd163 (ss_lt (by decide)) (lr_163_2 E _) ?_
        refine sv_iload_n (pc := 82) 1 (sv_d k_Wa_takenIfRaised 46 rfl) rfl rfl ?_
        refine ss_iald (pc := 83) (n := 20) (sv_d k_Wa_takenIfRaised 47 rfl) kd164 (ss_lt (by decide)) rfl ?_
        refine sv_callV (pc := 84) (ψ := (ss_pi r1.2)) (As := [.int (r1.2.1 164 x1.toNatClampNeg)]) (rest := []) (c := 159) (sv_d k_Wa_takenIfRaised 48 rfl) g_Ca_leastFrom w1119 in_Ca_leastFrom se_Ca_leastFrom cf1 kd159 (ss_lt (by decide)) rfl (Nat.le_of_ble_eq_true rfl) (V_Ca_leastFrom E (d + 3) (r1.2.1 164 x1.toNatClampNeg) r1.2) (Nat.le_of_ble_eq_true rfl) rfl (fun r2 => ?_)
        show sv_V E _ _ _ 87 _ [.int r2] (ss_e r1.2) _
        refine sv_goto (pc := 87) (tgt := 91) (sv_d k_Wa_takenIfRaised 49 rfl) (by decide) ?_
        exact sv_ret (pc := 91) (sv_d k_Wa_takenIfRaised 51 rfl) ⟨_, rfl, rfl⟩ rfl
    · refine sv_iload_n (pc := 10) 2 (sv_d k_Wa_takenIfRaised 6 rfl) rfl rfl ?_
      refine sv_iload_n (pc := 11) 3 (sv_d k_Wa_takenIfRaised 7 rfl) rfl rfl ?_
      refine sv_ishr (pc := 12) (sv_d k_Wa_takenIfRaised 8 rfl) ?_
      refine sv_iconst (pc := 13) (v := (1 : Int32)) (sv_d k_Wa_takenIfRaised 9 rfl) (by decide) ?_
      refine sv_iand (pc := 14) (sv_d k_Wa_takenIfRaised 10 rfl) ?_
      refine sv_iconst (pc := 15) (v := (1 : Int32)) (sv_d k_Wa_takenIfRaised 11 rfl) (by decide) ?_
      refine sv_icmp_ne (pc := 16) (tgt := 23) (sv_d k_Wa_takenIfRaised 12 rfl) (by decide) ?_ ?_
      · refine sv_iconst (pc := 23) (v := (0 : Int32)) (sv_d k_Wa_takenIfRaised 15 rfl) (by decide) ?_
        exact sv_loc [0, 1, 2, 3] rfl (V_Wa_takenIfRaised_b24 E d (F_Wa_takenIfRaised_b2  n) ih x1 x2 x3 (0 : Int32) s)
      · refine sv_iconst (pc := 19) (v := (1 : Int32)) (sv_d k_Wa_takenIfRaised 13 rfl) (by decide) ?_
        refine sv_goto (pc := 20) (tgt := 24) (sv_d k_Wa_takenIfRaised 14 rfl) (by decide) ?_
        exact sv_loc [0, 1, 2, 3] rfl (V_Wa_takenIfRaised_b24 E d (F_Wa_takenIfRaised_b2  n) ih x1 x2 x3 (1 : Int32) s)
def F_Wa_takenIfRaised (x1 : Int32) (x2 : Int32) (s : sv_S) : Option (Int32 × sv_S) :=
  F_Wa_takenIfRaised_b2 ss_F x1 x2 (0 : Int32) s
theorem V_Wa_takenIfRaised (E : sv_E) (d : Nat) (x1 : Int32) (x2 : Int32) (s : sv_S) : sv_V E m_Wa_takenIfRaised (d + 4) ss_i 0 (lv_args 0 [sv_r E 163, .int x1, .int x2]) [] (ss_e s) (F_Wa_takenIfRaised x1 x2 s) := by
  show sv_V E m_Wa_takenIfRaised (d + 4) ss_i 0 [(0, sv_r E 163), (1, .int x1), (2, .int x2)] [] (ss_e s) _
  unfold F_Wa_takenIfRaised
  refine sv_iconst (pc := 0) (v := (0 : Int32)) (sv_d k_Wa_takenIfRaised 0 rfl) (by decide) ?_
  refine sv_istore_n (pc := 1) (lv' := [(3, .int (0 : Int32)), (0, sv_r E 163), (1, .int x1), (2, .int x2)]) (sv_d k_Wa_takenIfRaised 1 rfl) rfl (by decide) rfl ?_
  exact sv_loc [1, 2, 3, 0] rfl (V_Wa_takenIfRaised_b2 E d ss_F x1 x2 (0 : Int32) s)
/-! Wa_addTakenBySets -/
abbrev m_Wa_addTakenBySets : sv_M := (yX10_addTakenBySets, cX10_addTakenBySets, 7, none)
def t_Wa_addTakenBySets : List (Nat × Instr × Nat) := [(0, .aload_n 0, 1), (1, .getfield 49, 3), (4, .aload_n 0, 1), (5, .getfield 18, 3), (8, .iload_n 1, 1), (9, .iaload, 1), (10, .aload_n 0, 1), (11, .getfield 21, 3), (14, .iload_n 1, 1), (15, .iaload, 1), (16, .iload_n 3, 1), (17, .invokevirtual 67, 3), (20, .aload_n 0, 1), (21, .iload_n 1, 1), (22, .iload_n 3, 1), (23, .invokevirtual 115, 3), (26, .istore 4, 2), (28, .iconst 0, 1), (29, .istore 5, 2), (31, .iload 5, 2), (33, .iload_n 2, 1), (34, .if_icmp .ge 64, 3), (37, .iload 5, 2), (39, .iload 4, 2), (41, .iand, 1), (42, .istore 6, 2), (44, .aload_n 0, 1), (45, .getfield 39, 3), (48, .iload 5, 2), (50, .iload 6, 2), (52, .iload 5, 2), (54, .if_icmp .ne 13, 3), (57, .aload_n 0, 1), (58, .iload_n 1, 1), (59, .iload 5, 2), (61, .invokevirtual 118, 3), (64, .goto 10, 3), (67, .aload_n 0, 1), (68, .getfield 39, 3), (71, .iload 6, 2), (73, .iaload, 1), (74, .iastore, 1), (75, .aload_n 0, 1), (76, .getfield 42, 3), (79, .iload 5, 2), (81, .dup2, 1), (82, .iaload, 1), (83, .aload_n 0, 1), (84, .getfield 39, 3), (87, .iload 5, 2), (89, .iaload, 1), (90, .iadd, 1), (91, .iastore, 1), (92, .iinc 5 1, 3), (95, .goto (-64), 3), (98, .return_, 1)]
theorem k_Wa_addTakenBySets : sv_tk m_Wa_addTakenBySets.2.1 t_Wa_addTakenBySets := by decide +kernel
theorem g_Wa_addTakenBySets : sv_G m_Wa_addTakenBySets 3 := ⟨by decide +kernel, sv_in 1172 (by decide +kernel) rfl, sv_in 100 (by decide +kernel) rfl, ⟨by decide, by decide⟩, by decide +kernel, by decide⟩
theorem in_Wa_addTakenBySets : Cond.instanceMethod m_Wa_addTakenBySets.1 ∈ sv_T := sv_in 1171 (by decide +kernel) rfl
theorem se_Wa_addTakenBySets : Cond.selects m_Wa_addTakenBySets.1.cls m_Wa_addTakenBySets.1 m_Wa_addTakenBySets.1 ∈ sv_T := sv_in 27 (by decide +kernel) rfl
def F_Wa_addTakenBySets_b74 (kc31 : Int32 → Int32 → Int32 → Int32 → sv_S → Option (sv_S)) (x1 : Int32) (x2 : Int32) (x4 : Int32) (x5 : Int32) (t1 : Int32) (t2 : Int32) (s : sv_S) : Option (sv_S) :=
  if sv_ib t1 1024 = true then
    ss_let (ss_setI s 173 t1.toNatClampNeg t2) fun s4 =>
    if sv_ib x5 1024 = true then
      if sv_ib x5 1024 = true then
        if sv_ib x5 1024 = true then
          ss_let (ss_setI s4 174 x5.toNatClampNeg ((s4.1 174 x5.toNatClampNeg) + (s4.1 173 x5.toNatClampNeg))) fun s5 =>
          ss_let (x5 + (1 : Int32)) fun v6 =>
          kc31 x1 x2 x4 v6 s5
        else none
      else none
    else none
  else none
theorem V_Wa_addTakenBySets_b74 (E : sv_E) (d : Nat) (kc31 : Int32 → Int32 → Int32 → Int32 → sv_S → Option (sv_S)) (hc31 : ∀ (x1 : Int32) (x2 : Int32) (x4 : Int32) (x5 : Int32) (s : sv_S), sv_V E m_Wa_addTakenBySets (d + 5) ss_v 31 [(0, sv_r E 163), (1, .int x1), (2, .int x2), (4, .int x4), (5, .int x5)] [] (ss_e s) (kc31 x1 x2 x4 x5 s)) (x1 : Int32) (x2 : Int32) (x4 : Int32) (x5 : Int32) (t1 : Int32) (t2 : Int32) (s : sv_S) : sv_V E m_Wa_addTakenBySets (d + 5) ss_v 74 [(0, sv_r E 163), (1, .int x1), (2, .int x2), (4, .int x4), (5, .int x5)] [.int t2, .int t1, sv_r E 173] (ss_e s) (F_Wa_addTakenBySets_b74 kc31 x1 x2 x4 x5 t1 t2 s) := by
  unfold F_Wa_addTakenBySets_b74
  refine ss_iast (pc := 74) (n := 1024) (sv_d k_Wa_addTakenBySets 41 rfl) kd173 (by decide) (ss_lt (by decide)) rfl (ss_lets (fun s4 e_s4 => ?_))
  refine sv_aload_n (pc := 75) 0 (sv_d k_Wa_addTakenBySets 42 rfl) rfl rfl ?_
  refine sv_getf (pc := 76) 12 (sv_d k_Wa_addTakenBySets 43 rfl) cf10 (by decide) w430 kd163 (ss_lt (by decide)) (lr_163_12 E _) ?_
  refine sv_iload (pc := 79) 4 (sv_d k_Wa_addTakenBySets 44 rfl) rfl ?_
  refine sv_dup2 (pc := 81) (sv_d k_Wa_addTakenBySets 45 rfl) rfl rfl ?_
  refine ss_iald (pc := 82) (n := 1024) (sv_d k_Wa_addTakenBySets 46 rfl) kd174 (ss_lt (by decide)) rfl ?_
  refine sv_aload_n (pc := 83) 0 (sv_d k_Wa_addTakenBySets 47 rfl) rfl rfl ?_
  refine sv_getf (pc := 84) 11 (sv_d k_Wa_addTakenBySets 48 rfl) cf10 (by decide) w429 kd163 (ss_lt (by decide)) (lr_163_11 E _) ?_
  refine sv_iload (pc := 87) 4 (sv_d k_Wa_addTakenBySets 49 rfl) rfl ?_
  refine ss_iald (pc := 89) (n := 1024) (sv_d k_Wa_addTakenBySets 50 rfl) kd173 (ss_lt (by decide)) rfl ?_
  refine sv_iadd (pc := 90) (sv_d k_Wa_addTakenBySets 51 rfl) ?_
  refine ss_iast (pc := 91) (n := 1024) (sv_d k_Wa_addTakenBySets 52 rfl) kd174 (by decide) (ss_lt (by decide)) rfl (ss_lets (fun s5 e_s5 => ?_))
  refine ss_letr (fun v6 e_v6 => ?_)
  refine sv_iinc (pc := 92) (v := v6) (lv' := [(5, .int v6), (0, sv_r E 163), (1, .int x1), (2, .int x2), (4, .int x4)]) (sv_d k_Wa_addTakenBySets 53 rfl) (n := 4) rfl (by rw [e_v6]; rfl) (by decide) rfl ?_
  refine sv_goto (pc := 95) (tgt := 31) (sv_d k_Wa_addTakenBySets 54 rfl) (by decide) ?_
  exact sv_loc [1, 2, 3, 4, 0] rfl (hc31 x1 x2 x4 v6 s5)
def F_Wa_addTakenBySets_b31 : Nat → Int32 → Int32 → Int32 → Int32 → sv_S → Option (sv_S)
  | 0 => fun _ _ _ _ _ => none
  | n + 1 => fun x1 x2 x4 x5 s =>
    if x2 ≤ x5 then
      some s
    else
    ss_let (x5 &&& x4) fun v3 =>
    if v3 = x5 then
      (F_Wa_takenIfRaised x1 x5 s).bind fun r7 =>
      F_Wa_addTakenBySets_b74 (F_Wa_addTakenBySets_b31  n) x1 x2 x4 x5 x5 r7.1 r7.2
    else
    if sv_ib v3 1024 = true then
      F_Wa_addTakenBySets_b74 (F_Wa_addTakenBySets_b31  n) x1 x2 x4 x5 x5 (s.1 173 v3.toNatClampNeg) s
    else none
theorem V_Wa_addTakenBySets_b31 (E : sv_E) (d : Nat) : ∀ (n : Nat) (x1 : Int32) (x2 : Int32) (x4 : Int32) (x5 : Int32) (s : sv_S), sv_V E m_Wa_addTakenBySets (d + 5) ss_v 31 [(0, sv_r E 163), (1, .int x1), (2, .int x2), (4, .int x4), (5, .int x5)] [] (ss_e s) (F_Wa_addTakenBySets_b31 n x1 x2 x4 x5 s) := by
  intro n
  induction n with
  | zero => intro x1 x2 x4 x5 s; exact sv_none
  | succ n ih =>
    intro x1 x2 x4 x5 s
    unfold F_Wa_addTakenBySets_b31
    refine sv_iload (pc := 31) 4 (sv_d k_Wa_addTakenBySets 19 rfl) rfl ?_
    refine sv_iload_n (pc := 33) 2 (sv_d k_Wa_addTakenBySets 20 rfl) rfl rfl ?_
    refine sv_icmp_ge (pc := 34) (tgt := 98) (sv_d k_Wa_addTakenBySets 21 rfl) (by decide) ?_ ?_
    · exact sv_retv (pc := 98) (sv_d k_Wa_addTakenBySets 55 rfl) rfl rfl
    · refine sv_iload (pc := 37) 4 (sv_d k_Wa_addTakenBySets 22 rfl) rfl ?_
      refine sv_iload (pc := 39) 3 (sv_d k_Wa_addTakenBySets 23 rfl) rfl ?_
      refine sv_iand (pc := 41) (sv_d k_Wa_addTakenBySets 24 rfl) ?_
      refine ss_top (fun v3 e_v3 => ?_)
      refine sv_istore (pc := 42) (lv' := [(6, .int v3), (0, sv_r E 163), (1, .int x1), (2, .int x2), (4, .int x4), (5, .int x5)]) (sv_d k_Wa_addTakenBySets 25 rfl) (by decide) rfl ?_
      refine sv_aload_n (pc := 44) 1 (sv_d k_Wa_addTakenBySets 26 rfl) rfl rfl ?_
      refine sv_getf (pc := 45) 11 (sv_d k_Wa_addTakenBySets 27 rfl) cf10 (by decide) w429 kd163 (ss_lt (by decide)) (lr_163_11 E _) ?_
      refine sv_iload (pc := 48) 5 (sv_d k_Wa_addTakenBySets 28 rfl) rfl ?_
      refine sv_iload (pc := 50) 0 (sv_d k_Wa_addTakenBySets 29 rfl) rfl ?_
      refine sv_iload (pc := 52) 5 (sv_d k_Wa_addTakenBySets 30 rfl) rfl ?_
      refine sv_icmp_ne (pc := 54) (tgt := 67) (sv_d k_Wa_addTakenBySets 31 rfl) (by decide) ?_ ?_
      · refine sv_aload_n (pc := 67) 1 (sv_d k_Wa_addTakenBySets 37 rfl) rfl rfl ?_
        refine sv_getf (pc := 68) 11 (sv_d k_Wa_addTakenBySets 38 rfl) cf10 (by decide) w429 kd163 (ss_lt (by decide)) (lr_163_11 E _) ?_
        refine sv_iload (pc := 71) 0 (sv_d k_Wa_addTakenBySets 39 rfl) rfl ?_
        refine ss_iald (pc := 73) (n := 1024) (sv_d k_Wa_addTakenBySets 40 rfl) kd173 (ss_lt (by decide)) rfl ?_
        exact sv_loc [1, 2, 3, 4, 5] rfl (V_Wa_addTakenBySets_b74 E d (F_Wa_addTakenBySets_b31  n) ih x1 x2 x4 x5 x5 (s.1 173 v3.toNatClampNeg) s)
      · refine sv_aload_n (pc := 57) 1 (sv_d k_Wa_addTakenBySets 32 rfl) rfl rfl ?_
        refine sv_iload_n (pc := 58) 2 (sv_d k_Wa_addTakenBySets 33 rfl) rfl rfl ?_
        refine sv_iload (pc := 59) 5 (sv_d k_Wa_addTakenBySets 34 rfl) rfl ?_
        refine sv_callV (pc := 61) (ψ := ss_i) (As := [.int x1, .int x5]) (rest := [.int x5, sv_r E 173]) (c := 163) (sv_d k_Wa_addTakenBySets 35 rfl) g_Wa_takenIfRaised w1178 in_Wa_takenIfRaised se_Wa_takenIfRaised cf10 kd163 (ss_lt (by decide)) rfl (Nat.le_of_ble_eq_true rfl) (V_Wa_takenIfRaised E (d + 0) x1 x5 s) (Nat.le_of_ble_eq_true rfl) rfl (fun r7 => ?_)
        show sv_V E _ _ _ 64 _ [.int r7.1, .int x5, sv_r E 173] (ss_e r7.2) _
        refine sv_goto (pc := 64) (tgt := 74) (sv_d k_Wa_addTakenBySets 36 rfl) (by decide) ?_
        exact sv_loc [1, 2, 3, 4, 5] rfl (V_Wa_addTakenBySets_b74 E d (F_Wa_addTakenBySets_b31  n) ih x1 x2 x4 x5 x5 r7.1 r7.2)
def F_Wa_addTakenBySets (x1 : Int32) (x2 : Int32) (x3 : Int32) (s : sv_S) : Option (sv_S) :=
  if sv_ib x1 20 = true then
    if sv_ib x1 20 = true then
      (F_Ca_price (s.1 166 x1.toNatClampNeg) (s.1 167 x1.toNatClampNeg) x3 s).bind fun r1 =>
      (F_Wa_priceListed x1 x3 r1).bind fun r2 =>
      F_Wa_addTakenBySets_b31 ss_F x1 x2 r2.1 (0 : Int32) r2.2
    else none
  else none
theorem V_Wa_addTakenBySets (E : sv_E) (d : Nat) (x1 : Int32) (x2 : Int32) (x3 : Int32) (s : sv_S) : sv_V E m_Wa_addTakenBySets (d + 5) ss_v 0 (lv_args 0 [sv_r E 163, .int x1, .int x2, .int x3]) [] (ss_e s) (F_Wa_addTakenBySets x1 x2 x3 s) := by
  show sv_V E m_Wa_addTakenBySets (d + 5) ss_v 0 [(0, sv_r E 163), (1, .int x1), (2, .int x2), (3, .int x3)] [] (ss_e s) _
  unfold F_Wa_addTakenBySets
  refine sv_aload_n (pc := 0) 0 (sv_d k_Wa_addTakenBySets 0 rfl) rfl rfl ?_
  refine sv_getf (pc := 1) 1 (sv_d k_Wa_addTakenBySets 1 rfl) cf10 (by decide) w419 kd163 (ss_lt (by decide)) (lr_163_1 E _) ?_
  refine sv_aload_n (pc := 4) 0 (sv_d k_Wa_addTakenBySets 2 rfl) rfl rfl ?_
  refine sv_getf (pc := 5) 4 (sv_d k_Wa_addTakenBySets 3 rfl) cf10 (by decide) w422 kd163 (ss_lt (by decide)) (lr_163_4 E _) ?_
  refine sv_iload_n (pc := 8) 1 (sv_d k_Wa_addTakenBySets 4 rfl) rfl rfl ?_
  refine ss_iald (pc := 9) (n := 20) (sv_d k_Wa_addTakenBySets 5 rfl) kd166 (ss_lt (by decide)) rfl ?_
  refine sv_aload_n (pc := 10) 0 (sv_d k_Wa_addTakenBySets 6 rfl) rfl rfl ?_
  refine sv_getf (pc := 11) 5 (sv_d k_Wa_addTakenBySets 7 rfl) cf10 (by decide) w423 kd163 (ss_lt (by decide)) (lr_163_5 E _) ?_
  refine sv_iload_n (pc := 14) 1 (sv_d k_Wa_addTakenBySets 8 rfl) rfl rfl ?_
  refine ss_iald (pc := 15) (n := 20) (sv_d k_Wa_addTakenBySets 9 rfl) kd167 (ss_lt (by decide)) rfl ?_
  refine sv_iload_n (pc := 16) 3 (sv_d k_Wa_addTakenBySets 10 rfl) rfl rfl ?_
  refine sv_callV (pc := 17) (ψ := ss_v) (As := [.int (s.1 166 x1.toNatClampNeg), .int (s.1 167 x1.toNatClampNeg), .int x3]) (rest := []) (c := 159) (sv_d k_Wa_addTakenBySets 11 rfl) g_Ca_price w1113 in_Ca_price se_Ca_price cf1 kd159 (ss_lt (by decide)) rfl (Nat.le_of_ble_eq_true rfl) (V_Ca_price E (d + 1) (s.1 166 x1.toNatClampNeg) (s.1 167 x1.toNatClampNeg) x3 s) (Nat.le_of_ble_eq_true rfl) rfl (fun r1 => ?_)
  show sv_V E _ _ _ 20 _ [] (ss_e r1) _
  refine sv_aload_n (pc := 20) 0 (sv_d k_Wa_addTakenBySets 12 rfl) rfl rfl ?_
  refine sv_iload_n (pc := 21) 1 (sv_d k_Wa_addTakenBySets 13 rfl) rfl rfl ?_
  refine sv_iload_n (pc := 22) 3 (sv_d k_Wa_addTakenBySets 14 rfl) rfl rfl ?_
  refine sv_callV (pc := 23) (ψ := ss_i) (As := [.int x1, .int x3]) (rest := []) (c := 163) (sv_d k_Wa_addTakenBySets 15 rfl) g_Wa_priceListed w1173 in_Wa_priceListed se_Wa_priceListed cf10 kd163 (ss_lt (by decide)) rfl (Nat.le_of_ble_eq_true rfl) (V_Wa_priceListed E (d + 1) x1 x3 r1) (Nat.le_of_ble_eq_true rfl) rfl (fun r2 => ?_)
  show sv_V E _ _ _ 26 _ [.int r2.1] (ss_e r2.2) _
  refine sv_istore (pc := 26) (lv' := [(4, .int r2.1), (0, sv_r E 163), (1, .int x1), (2, .int x2), (3, .int x3)]) (sv_d k_Wa_addTakenBySets 16 rfl) (by decide) rfl ?_
  refine sv_iconst (pc := 28) (v := (0 : Int32)) (sv_d k_Wa_addTakenBySets 17 rfl) (by decide) ?_
  refine sv_istore (pc := 29) (lv' := [(5, .int (0 : Int32)), (4, .int r2.1), (0, sv_r E 163), (1, .int x1), (2, .int x2), (3, .int x3)]) (sv_d k_Wa_addTakenBySets 18 rfl) (by decide) rfl ?_
  exact sv_loc [2, 3, 4, 1, 0] rfl (V_Wa_addTakenBySets_b31 E d ss_F x1 x2 r2.1 (0 : Int32) r2.2)
/-! Wa_fewestRaised -/
abbrev m_Wa_fewestRaised : sv_M := (yX10_fewestRaised, cX10_fewestRaised, 7, (some .int))
def t_Wa_fewestRaised : List (Nat × Instr × Nat) := [(0, .iconst 1, 1), (1, .aload_n 0, 1), (2, .getfield 83, 3), (5, .ishl, 1), (6, .istore_n 3, 1), (7, .aload_n 0, 1), (8, .getfield 42, 3), (11, .iconst 0, 1), (12, .invokestatic 86, 3), (15, .iconst 0, 1), (16, .istore 4, 2), (18, .iload 4, 2), (20, .aload_n 0, 1), (21, .getfield 83, 3), (24, .if_icmp .ge 44, 3), (27, .aload_n 0, 1), (28, .getfield 30, 3), (31, .iload 4, 2), (33, .sipush 9999, 3), (36, .aload_n 0, 1), (37, .getfield 45, 3), (40, .aload_n 0, 1), (41, .getfield 45, 3), (44, .aload_n 0, 1), (45, .getfield 27, 3), (48, .iload 4, 2), (50, .iaload, 1), (51, .invokevirtual 92, 3), (54, .iload_n 2, 1), (55, .invokevirtual 98, 3), (58, .invokestatic 102, 3), (61, .iastore, 1), (62, .iinc 4 1, 3), (65, .goto (-47), 3), (68, .iconst 0, 1), (69, .istore 4, 2), (71, .iload 4, 2), (73, .aload_n 0, 1), (74, .getfield 53, 3), (77, .if_icmp .ge 17, 3), (80, .aload_n 0, 1), (81, .iload 4, 2), (83, .iload_n 3, 1), (84, .iload_n 2, 1), (85, .invokevirtual 107, 3), (88, .iinc 4 1, 3), (91, .goto (-20), 3), (94, .iconst (-1), 1), (95, .istore 4, 2), (97, .iconst 0, 1), (98, .istore 5, 2), (100, .iload 5, 2), (102, .iload_n 3, 1), (103, .if_icmp .ge 54, 3), (106, .iload 4, 2), (108, .ifCond .lt 16, 3), (111, .iload 5, 2), (113, .invokestatic 110, 3), (116, .iload 4, 2), (118, .invokestatic 110, 3), (121, .if_icmp .ge 7, 3), (124, .iconst 1, 1), (125, .goto 4, 3), (128, .iconst 0, 1), (129, .istore 6, 2), (131, .aload_n 0, 1), (132, .getfield 42, 3), (135, .iload 5, 2), (137, .iaload, 1), (138, .iload_n 1, 1), (139, .if_icmp .lt 12, 3), (142, .iload 6, 2), (144, .ifCond .eq 7, 3), (147, .iload 5, 2), (149, .istore 4, 2), (151, .iinc 5 1, 3), (154, .goto (-54), 3), (157, .iload 4, 2), (159, .ireturn, 1)]
theorem k_Wa_fewestRaised : sv_tk m_Wa_fewestRaised.2.1 t_Wa_fewestRaised := by decide +kernel
theorem g_Wa_fewestRaised : sv_G m_Wa_fewestRaised 2 := ⟨by decide +kernel, sv_in 1164 (by decide +kernel) rfl, sv_in 100 (by decide +kernel) rfl, ⟨by decide, by decide⟩, by decide +kernel, by decide⟩
theorem in_Wa_fewestRaised : Cond.instanceMethod m_Wa_fewestRaised.1 ∈ sv_T := sv_in 1162 (by decide +kernel) rfl
theorem se_Wa_fewestRaised : Cond.selects m_Wa_fewestRaised.1.cls m_Wa_fewestRaised.1 m_Wa_fewestRaised.1 ∈ sv_T := sv_in 1163 (by decide +kernel) rfl
def F_Wa_fewestRaised_b151 (kc100 : Int32 → Int32 → Int32 → Int32 → sv_S → Option (Int32 × sv_S)) (x1 : Int32) (x3 : Int32) (x4 : Int32) (x5 : Int32) (s : sv_S) : Option (Int32 × sv_S) :=
  ss_let (x5 + (1 : Int32)) fun v3 =>
  kc100 x1 x3 x4 v3 s
theorem V_Wa_fewestRaised_b151 (E : sv_E) (d : Nat) (kc100 : Int32 → Int32 → Int32 → Int32 → sv_S → Option (Int32 × sv_S)) (hc100 : ∀ (x1 : Int32) (x3 : Int32) (x4 : Int32) (x5 : Int32) (s : sv_S), sv_V E m_Wa_fewestRaised (d + 6) ss_i 100 [(0, sv_r E 163), (1, .int x1), (3, .int x3), (4, .int x4), (5, .int x5)] [] (ss_e s) (kc100 x1 x3 x4 x5 s)) (x1 : Int32) (x3 : Int32) (x4 : Int32) (x5 : Int32) (s : sv_S) : sv_V E m_Wa_fewestRaised (d + 6) ss_i 151 [(0, sv_r E 163), (1, .int x1), (3, .int x3), (4, .int x4), (5, .int x5)] [] (ss_e s) (F_Wa_fewestRaised_b151 kc100 x1 x3 x4 x5 s) := by
  unfold F_Wa_fewestRaised_b151
  refine ss_letr (fun v3 e_v3 => ?_)
  refine sv_iinc (pc := 151) (v := v3) (lv' := [(5, .int v3), (0, sv_r E 163), (1, .int x1), (3, .int x3), (4, .int x4)]) (sv_d k_Wa_fewestRaised 75 rfl) (n := 4) rfl (by rw [e_v3]; rfl) (by decide) rfl ?_
  refine sv_goto (pc := 154) (tgt := 100) (sv_d k_Wa_fewestRaised 76 rfl) (by decide) ?_
  exact sv_loc [1, 2, 3, 4, 0] rfl (hc100 x1 x3 x4 v3 s)
def F_Wa_fewestRaised_b129 (kc100 : Int32 → Int32 → Int32 → Int32 → sv_S → Option (Int32 × sv_S)) (x1 : Int32) (x3 : Int32) (x4 : Int32) (x5 : Int32) (t0 : Int32) (s : sv_S) : Option (Int32 × sv_S) :=
  if sv_ib x5 1024 = true then
    if (s.1 174 x5.toNatClampNeg) < x1 then
      F_Wa_fewestRaised_b151 kc100 x1 x3 x4 x5 s
    else
    if t0 = 0 then
      F_Wa_fewestRaised_b151 kc100 x1 x3 x4 x5 s
    else
    F_Wa_fewestRaised_b151 kc100 x1 x3 x5 x5 s
  else none
theorem V_Wa_fewestRaised_b129 (E : sv_E) (d : Nat) (kc100 : Int32 → Int32 → Int32 → Int32 → sv_S → Option (Int32 × sv_S)) (hc100 : ∀ (x1 : Int32) (x3 : Int32) (x4 : Int32) (x5 : Int32) (s : sv_S), sv_V E m_Wa_fewestRaised (d + 6) ss_i 100 [(0, sv_r E 163), (1, .int x1), (3, .int x3), (4, .int x4), (5, .int x5)] [] (ss_e s) (kc100 x1 x3 x4 x5 s)) (x1 : Int32) (x3 : Int32) (x4 : Int32) (x5 : Int32) (t0 : Int32) (s : sv_S) : sv_V E m_Wa_fewestRaised (d + 6) ss_i 129 [(0, sv_r E 163), (1, .int x1), (3, .int x3), (4, .int x4), (5, .int x5)] [.int t0] (ss_e s) (F_Wa_fewestRaised_b129 kc100 x1 x3 x4 x5 t0 s) := by
  unfold F_Wa_fewestRaised_b129
  refine sv_istore (pc := 129) (lv' := [(6, .int t0), (0, sv_r E 163), (1, .int x1), (3, .int x3), (4, .int x4), (5, .int x5)]) (sv_d k_Wa_fewestRaised 64 rfl) (by decide) rfl ?_
  refine sv_aload_n (pc := 131) 1 (sv_d k_Wa_fewestRaised 65 rfl) rfl rfl ?_
  refine sv_getf (pc := 132) 12 (sv_d k_Wa_fewestRaised 66 rfl) cf10 (by decide) w430 kd163 (ss_lt (by decide)) (lr_163_12 E _) ?_
  refine sv_iload (pc := 135) 5 (sv_d k_Wa_fewestRaised 67 rfl) rfl ?_
  refine ss_iald (pc := 137) (n := 1024) (sv_d k_Wa_fewestRaised 68 rfl) kd174 (ss_lt (by decide)) rfl ?_
  refine sv_iload_n (pc := 138) 2 (sv_d k_Wa_fewestRaised 69 rfl) rfl rfl ?_
  refine sv_icmp_lt (pc := 139) (tgt := 151) (sv_d k_Wa_fewestRaised 70 rfl) (by decide) ?_ ?_
  · exact sv_loc [1, 2, 3, 4, 5] rfl (V_Wa_fewestRaised_b151 E d kc100 hc100 x1 x3 x4 x5 s)
  · refine sv_iload (pc := 142) 0 (sv_d k_Wa_fewestRaised 71 rfl) rfl ?_
    refine sv_if_eq (pc := 144) (tgt := 151) (sv_d k_Wa_fewestRaised 72 rfl) (by decide) ?_ ?_
    · exact sv_loc [1, 2, 3, 4, 5] rfl (V_Wa_fewestRaised_b151 E d kc100 hc100 x1 x3 x4 x5 s)
    · refine sv_iload (pc := 147) 5 (sv_d k_Wa_fewestRaised 73 rfl) rfl ?_
      refine sv_istore (pc := 149) (lv' := [(4, .int x5), (6, .int t0), (0, sv_r E 163), (1, .int x1), (3, .int x3), (5, .int x5)]) (sv_d k_Wa_fewestRaised 74 rfl) (by decide) rfl ?_
      exact sv_loc [2, 3, 4, 0, 5] rfl (V_Wa_fewestRaised_b151 E d kc100 hc100 x1 x3 x5 x5 s)
def F_Wa_fewestRaised_b124 (kc100 : Int32 → Int32 → Int32 → Int32 → sv_S → Option (Int32 × sv_S)) (x1 : Int32) (x3 : Int32) (x4 : Int32) (x5 : Int32) (s : sv_S) : Option (Int32 × sv_S) :=
  F_Wa_fewestRaised_b129 kc100 x1 x3 x4 x5 (1 : Int32) s
theorem V_Wa_fewestRaised_b124 (E : sv_E) (d : Nat) (kc100 : Int32 → Int32 → Int32 → Int32 → sv_S → Option (Int32 × sv_S)) (hc100 : ∀ (x1 : Int32) (x3 : Int32) (x4 : Int32) (x5 : Int32) (s : sv_S), sv_V E m_Wa_fewestRaised (d + 6) ss_i 100 [(0, sv_r E 163), (1, .int x1), (3, .int x3), (4, .int x4), (5, .int x5)] [] (ss_e s) (kc100 x1 x3 x4 x5 s)) (x1 : Int32) (x3 : Int32) (x4 : Int32) (x5 : Int32) (s : sv_S) : sv_V E m_Wa_fewestRaised (d + 6) ss_i 124 [(0, sv_r E 163), (1, .int x1), (3, .int x3), (4, .int x4), (5, .int x5)] [] (ss_e s) (F_Wa_fewestRaised_b124 kc100 x1 x3 x4 x5 s) := by
  unfold F_Wa_fewestRaised_b124
  refine sv_iconst (pc := 124) (v := (1 : Int32)) (sv_d k_Wa_fewestRaised 61 rfl) (by decide) ?_
  refine sv_goto (pc := 125) (tgt := 129) (sv_d k_Wa_fewestRaised 62 rfl) (by decide) ?_
  exact sv_loc [0, 1, 2, 3, 4] rfl (V_Wa_fewestRaised_b129 E d kc100 hc100 x1 x3 x4 x5 (1 : Int32) s)
def F_Wa_fewestRaised_b100 : Nat → Int32 → Int32 → Int32 → Int32 → sv_S → Option (Int32 × sv_S)
  | 0 => fun _ _ _ _ _ => none
  | n + 1 => fun x1 x3 x4 x5 s =>
    if x3 ≤ x5 then
      some (x4, s)
    else
    if x4 < 0 then
      F_Wa_fewestRaised_b124 (F_Wa_fewestRaised_b100  n) x1 x3 x4 x5 s
    else
    (F_JI_bitCount x5 s).bind fun r4 =>
    (F_JI_bitCount x4 s).bind fun r5 =>
    if r5 ≤ r4 then
      F_Wa_fewestRaised_b129 (F_Wa_fewestRaised_b100  n) x1 x3 x4 x5 (0 : Int32) s
    else
    F_Wa_fewestRaised_b124 (F_Wa_fewestRaised_b100  n) x1 x3 x4 x5 s
theorem V_Wa_fewestRaised_b100 (E : sv_E) (d : Nat) : ∀ (n : Nat) (x1 : Int32) (x3 : Int32) (x4 : Int32) (x5 : Int32) (s : sv_S), sv_V E m_Wa_fewestRaised (d + 6) ss_i 100 [(0, sv_r E 163), (1, .int x1), (3, .int x3), (4, .int x4), (5, .int x5)] [] (ss_e s) (F_Wa_fewestRaised_b100 n x1 x3 x4 x5 s) := by
  intro n
  induction n with
  | zero => intro x1 x3 x4 x5 s; exact sv_none
  | succ n ih =>
    intro x1 x3 x4 x5 s
    unfold F_Wa_fewestRaised_b100
    refine sv_iload (pc := 100) 4 (sv_d k_Wa_fewestRaised 51 rfl) rfl ?_
    refine sv_iload_n (pc := 102) 2 (sv_d k_Wa_fewestRaised 52 rfl) rfl rfl ?_
    refine sv_icmp_ge (pc := 103) (tgt := 157) (sv_d k_Wa_fewestRaised 53 rfl) (by decide) ?_ ?_
    · refine sv_iload (pc := 157) 3 (sv_d k_Wa_fewestRaised 77 rfl) rfl ?_
      exact sv_ret (pc := 159) (sv_d k_Wa_fewestRaised 78 rfl) ⟨_, rfl, rfl⟩ rfl
    · refine sv_iload (pc := 106) 3 (sv_d k_Wa_fewestRaised 54 rfl) rfl ?_
      refine sv_if_lt (pc := 108) (tgt := 124) (sv_d k_Wa_fewestRaised 55 rfl) (by decide) ?_ ?_
      · exact sv_loc [0, 1, 2, 3, 4] rfl (V_Wa_fewestRaised_b124 E d (F_Wa_fewestRaised_b100  n) ih x1 x3 x4 x5 s)
      · refine sv_iload (pc := 111) 4 (sv_d k_Wa_fewestRaised 56 rfl) rfl ?_
        refine sv_callS (pc := 113) (ψ := (ss_pi s)) (As := [.int x5]) (rest := []) (sv_d k_Wa_fewestRaised 57 rfl) g_JI_bitCount w1182 st_JI_bitCount rfl (Nat.le_of_ble_eq_true rfl) (V_JI_bitCount E (d + 5) x5 s) (Nat.le_of_ble_eq_true rfl) rfl (fun r4 => ?_)
        show sv_V E _ _ _ 116 _ [.int r4] (ss_e s) _
        refine sv_iload (pc := 116) 3 (sv_d k_Wa_fewestRaised 58 rfl) rfl ?_
        refine sv_callS (pc := 118) (ψ := (ss_pi s)) (As := [.int x4]) (rest := [.int r4]) (sv_d k_Wa_fewestRaised 59 rfl) g_JI_bitCount w1182 st_JI_bitCount rfl (Nat.le_of_ble_eq_true rfl) (V_JI_bitCount E (d + 5) x4 s) (Nat.le_of_ble_eq_true rfl) rfl (fun r5 => ?_)
        show sv_V E _ _ _ 121 _ [.int r5, .int r4] (ss_e s) _
        refine sv_icmp_ge (pc := 121) (tgt := 128) (sv_d k_Wa_fewestRaised 60 rfl) (by decide) ?_ ?_
        · refine sv_iconst (pc := 128) (v := (0 : Int32)) (sv_d k_Wa_fewestRaised 63 rfl) (by decide) ?_
          exact sv_loc [0, 1, 2, 3, 4] rfl (V_Wa_fewestRaised_b129 E d (F_Wa_fewestRaised_b100  n) ih x1 x3 x4 x5 (0 : Int32) s)
        · exact sv_loc [0, 1, 2, 3, 4] rfl (V_Wa_fewestRaised_b124 E d (F_Wa_fewestRaised_b100  n) ih x1 x3 x4 x5 s)
def F_Wa_fewestRaised_b71 : Nat → Int32 → Int32 → Int32 → Int32 → sv_S → Option (Int32 × sv_S)
  | 0 => fun _ _ _ _ _ => none
  | n + 1 => fun x1 x2 x3 x4 s =>
    if (s.1 163 13) ≤ x4 then
      F_Wa_fewestRaised_b100 ss_F x1 x3 (-1 : Int32) (0 : Int32) s
    else
    (F_Wa_addTakenBySets x4 x3 x2 s).bind fun r6 =>
    ss_let (x4 + (1 : Int32)) fun v7 =>
    F_Wa_fewestRaised_b71  n x1 x2 x3 v7 r6
theorem V_Wa_fewestRaised_b71 (E : sv_E) (d : Nat) : ∀ (n : Nat) (x1 : Int32) (x2 : Int32) (x3 : Int32) (x4 : Int32) (s : sv_S), sv_V E m_Wa_fewestRaised (d + 6) ss_i 71 [(0, sv_r E 163), (1, .int x1), (2, .int x2), (3, .int x3), (4, .int x4)] [] (ss_e s) (F_Wa_fewestRaised_b71 n x1 x2 x3 x4 s) := by
  intro n
  induction n with
  | zero => intro x1 x2 x3 x4 s; exact sv_none
  | succ n ih =>
    intro x1 x2 x3 x4 s
    unfold F_Wa_fewestRaised_b71
    refine sv_iload (pc := 71) 4 (sv_d k_Wa_fewestRaised 36 rfl) rfl ?_
    refine sv_aload_n (pc := 73) 0 (sv_d k_Wa_fewestRaised 37 rfl) rfl rfl ?_
    refine sv_getf (pc := 74) 13 (sv_d k_Wa_fewestRaised 38 rfl) cf10 (by decide) w431 kd163 (ss_lt (by decide)) rfl ?_
    refine sv_icmp_ge (pc := 77) (tgt := 94) (sv_d k_Wa_fewestRaised 39 rfl) (by decide) ?_ ?_
    · refine sv_iconst (pc := 94) (v := (-1 : Int32)) (sv_d k_Wa_fewestRaised 47 rfl) (by decide) ?_
      refine sv_istore (pc := 95) (lv' := [(4, .int (-1 : Int32)), (0, sv_r E 163), (1, .int x1), (2, .int x2), (3, .int x3)]) (sv_d k_Wa_fewestRaised 48 rfl) (by decide) rfl ?_
      refine sv_iconst (pc := 97) (v := (0 : Int32)) (sv_d k_Wa_fewestRaised 49 rfl) (by decide) ?_
      refine sv_istore (pc := 98) (lv' := [(5, .int (0 : Int32)), (4, .int (-1 : Int32)), (0, sv_r E 163), (1, .int x1), (2, .int x2), (3, .int x3)]) (sv_d k_Wa_fewestRaised 50 rfl) (by decide) rfl ?_
      exact sv_loc [2, 3, 5, 1, 0] rfl (V_Wa_fewestRaised_b100 E d ss_F x1 x3 (-1 : Int32) (0 : Int32) s)
    · refine sv_aload_n (pc := 80) 0 (sv_d k_Wa_fewestRaised 40 rfl) rfl rfl ?_
      refine sv_iload (pc := 81) 4 (sv_d k_Wa_fewestRaised 41 rfl) rfl ?_
      refine sv_iload_n (pc := 83) 3 (sv_d k_Wa_fewestRaised 42 rfl) rfl rfl ?_
      refine sv_iload_n (pc := 84) 2 (sv_d k_Wa_fewestRaised 43 rfl) rfl rfl ?_
      refine sv_callV (pc := 85) (ψ := ss_v) (As := [.int x4, .int x3, .int x2]) (rest := []) (c := 163) (sv_d k_Wa_fewestRaised 44 rfl) g_Wa_addTakenBySets w1169 in_Wa_addTakenBySets se_Wa_addTakenBySets cf10 kd163 (ss_lt (by decide)) rfl (Nat.le_of_ble_eq_true rfl) (V_Wa_addTakenBySets E (d + 0) x4 x3 x2 s) (Nat.le_of_ble_eq_true rfl) rfl (fun r6 => ?_)
      show sv_V E _ _ _ 88 _ [] (ss_e r6) _
      refine ss_letr (fun v7 e_v7 => ?_)
      refine sv_iinc (pc := 88) (v := v7) (lv' := [(4, .int v7), (0, sv_r E 163), (1, .int x1), (2, .int x2), (3, .int x3)]) (sv_d k_Wa_fewestRaised 45 rfl) (n := 4) rfl (by rw [e_v7]; rfl) (by decide) rfl ?_
      refine sv_goto (pc := 91) (tgt := 71) (sv_d k_Wa_fewestRaised 46 rfl) (by decide) ?_
      exact sv_loc [1, 2, 3, 4, 0] rfl (ih x1 x2 x3 v7 r6)
def F_Wa_fewestRaised_b18 : Nat → Int32 → Int32 → Int32 → Int32 → sv_S → Option (Int32 × sv_S)
  | 0 => fun _ _ _ _ _ => none
  | n + 1 => fun x1 x2 x3 x4 s =>
    if (s.1 163 14) ≤ x4 then
      F_Wa_fewestRaised_b71 ss_F x1 x2 x3 (0 : Int32) s
    else
    if sv_ib x4 10 = true then
      (F_Rs_row (s.1 169 x4.toNatClampNeg) s).bind fun r8 =>
      if ss_ok2 s r8 5 = true then
        (F_Rs_ceiling r8 x2 s).bind fun r10 =>
        (F_JM_min (9999 : Int32) r10.1 r10.2).bind fun r11 =>
        if sv_ib x4 10 = true then
          ss_let (ss_setI r10.2 170 x4.toNatClampNeg r11) fun s12 =>
          ss_let (x4 + (1 : Int32)) fun v13 =>
          F_Wa_fewestRaised_b18  n x1 x2 x3 v13 s12
        else none
      else none
    else none
theorem V_Wa_fewestRaised_b18 (E : sv_E) (d : Nat) : ∀ (n : Nat) (x1 : Int32) (x2 : Int32) (x3 : Int32) (x4 : Int32) (s : sv_S), sv_V E m_Wa_fewestRaised (d + 6) ss_i 18 [(0, sv_r E 163), (1, .int x1), (2, .int x2), (3, .int x3), (4, .int x4)] [] (ss_e s) (F_Wa_fewestRaised_b18 n x1 x2 x3 x4 s) := by
  intro n
  induction n with
  | zero => intro x1 x2 x3 x4 s; exact sv_none
  | succ n ih =>
    intro x1 x2 x3 x4 s
    unfold F_Wa_fewestRaised_b18
    refine sv_iload (pc := 18) 4 (sv_d k_Wa_fewestRaised 11 rfl) rfl ?_
    refine sv_aload_n (pc := 20) 0 (sv_d k_Wa_fewestRaised 12 rfl) rfl rfl ?_
    refine sv_getf (pc := 21) 14 (sv_d k_Wa_fewestRaised 13 rfl) cf10 (by decide) w433 kd163 (ss_lt (by decide)) rfl ?_
    refine sv_icmp_ge (pc := 24) (tgt := 68) (sv_d k_Wa_fewestRaised 14 rfl) (by decide) ?_ ?_
    · refine sv_iconst (pc := 68) (v := (0 : Int32)) (sv_d k_Wa_fewestRaised 34 rfl) (by decide) ?_
      refine sv_istore (pc := 69) (lv' := [(4, .int (0 : Int32)), (0, sv_r E 163), (1, .int x1), (2, .int x2), (3, .int x3)]) (sv_d k_Wa_fewestRaised 35 rfl) (by decide) rfl ?_
      exact sv_loc [1, 2, 3, 4, 0] rfl (V_Wa_fewestRaised_b71 E d ss_F x1 x2 x3 (0 : Int32) s)
    · refine sv_aload_n (pc := 27) 0 (sv_d k_Wa_fewestRaised 15 rfl) rfl rfl ?_
      refine sv_getf (pc := 28) 8 (sv_d k_Wa_fewestRaised 16 rfl) cf10 (by decide) w426 kd163 (ss_lt (by decide)) (lr_163_8 E _) ?_
      refine sv_iload (pc := 31) 4 (sv_d k_Wa_fewestRaised 17 rfl) rfl ?_
      refine sv_sipush (pc := 33) (v := (9999 : Int32)) (sv_d k_Wa_fewestRaised 18 rfl) (by decide) ?_
      refine sv_aload_n (pc := 36) 0 (sv_d k_Wa_fewestRaised 19 rfl) rfl rfl ?_
      refine sv_getf (pc := 37) 0 (sv_d k_Wa_fewestRaised 20 rfl) cf10 (by decide) w418 kd163 (ss_lt (by decide)) (lr_163_0 E _) ?_
      refine sv_aload_n (pc := 40) 0 (sv_d k_Wa_fewestRaised 21 rfl) rfl rfl ?_
      refine sv_getf (pc := 41) 0 (sv_d k_Wa_fewestRaised 22 rfl) cf10 (by decide) w418 kd163 (ss_lt (by decide)) (lr_163_0 E _) ?_
      refine sv_aload_n (pc := 44) 0 (sv_d k_Wa_fewestRaised 23 rfl) rfl rfl ?_
      refine sv_getf (pc := 45) 7 (sv_d k_Wa_fewestRaised 24 rfl) cf10 (by decide) w425 kd163 (ss_lt (by decide)) (lr_163_7 E _) ?_
      refine sv_iload (pc := 48) 4 (sv_d k_Wa_fewestRaised 25 rfl) rfl ?_
      refine ss_iald (pc := 50) (n := 10) (sv_d k_Wa_fewestRaised 26 rfl) kd169 (ss_lt (by decide)) rfl ?_
      refine sv_callV (pc := 51) (ψ := (ss_pq E s)) (As := [.int (s.1 169 x4.toNatClampNeg)]) (rest := [sv_r E 88, .int (9999 : Int32), .int x4, sv_r E 170]) (c := 88) (sv_d k_Wa_fewestRaised 27 rfl) g_Rs_row w1166 in_Rs_row se_Rs_row cf6 kd88 (ss_lt (by decide)) rfl (Nat.le_of_ble_eq_true rfl) (V_Rs_row E (d + 5) (s.1 169 x4.toNatClampNeg) s) (Nat.le_of_ble_eq_true rfl) rfl (fun r8 => ?_)
      show sv_V E _ _ _ 54 _ [sv_r E r8, sv_r E 88, .int (9999 : Int32), .int x4, sv_r E 170] (ss_e s) _
      refine ss_gd2 (fun h_g9 o_g9 l_g9 => ?_)
      refine sv_iload_n (pc := 54) 2 (sv_d k_Wa_fewestRaised 28 rfl) rfl rfl ?_
      refine sv_callV (pc := 55) (ψ := ss_i) (As := [sv_r E r8, .int x2]) (rest := [.int (9999 : Int32), .int x4, sv_r E 170]) (c := 88) (sv_d k_Wa_fewestRaised 29 rfl) g_Rs_ceiling w1167 in_Rs_ceiling se_Rs_ceiling cf6 kd88 (ss_lt (by decide)) rfl (Nat.le_of_ble_eq_true rfl) (V_Rs_ceiling E (d + 2) r8 x2 s h_g9 o_g9 l_g9) (Nat.le_of_ble_eq_true rfl) rfl (fun r10 => ?_)
      show sv_V E _ _ _ 58 _ [.int r10.1, .int (9999 : Int32), .int x4, sv_r E 170] (ss_e r10.2) _
      refine sv_callS (pc := 58) (ψ := (ss_pi r10.2)) (As := [.int (9999 : Int32), .int r10.1]) (rest := [.int x4, sv_r E 170]) (sv_d k_Wa_fewestRaised 30 rfl) g_JM_min w1168 st_JM_min rfl (Nat.le_of_ble_eq_true rfl) (V_JM_min E (d + 5) (9999 : Int32) r10.1 r10.2) (Nat.le_of_ble_eq_true rfl) rfl (fun r11 => ?_)
      show sv_V E _ _ _ 61 _ [.int r11, .int x4, sv_r E 170] (ss_e r10.2) _
      refine ss_iast (pc := 61) (n := 10) (sv_d k_Wa_fewestRaised 31 rfl) kd170 (by decide) (ss_lt (by decide)) rfl (ss_lets (fun s12 e_s12 => ?_))
      refine ss_letr (fun v13 e_v13 => ?_)
      refine sv_iinc (pc := 62) (v := v13) (lv' := [(4, .int v13), (0, sv_r E 163), (1, .int x1), (2, .int x2), (3, .int x3)]) (sv_d k_Wa_fewestRaised 32 rfl) (n := 4) rfl (by rw [e_v13]; rfl) (by decide) rfl ?_
      refine sv_goto (pc := 65) (tgt := 18) (sv_d k_Wa_fewestRaised 33 rfl) (by decide) ?_
      exact sv_loc [1, 2, 3, 4, 0] rfl (ih x1 x2 x3 v13 s12)
def F_Wa_fewestRaised (x1 : Int32) (x2 : Int32) (s : sv_S) : Option (Int32 × sv_S) :=
  ss_let ((1 : Int32) <<< ((s.1 163 14) &&& 31)) fun v1 =>
  (F_JA_fillI 174 (0 : Int32) s).bind fun r2 =>
  F_Wa_fewestRaised_b18 ss_F x1 x2 v1 (0 : Int32) r2
theorem V_Wa_fewestRaised (E : sv_E) (d : Nat) (x1 : Int32) (x2 : Int32) (s : sv_S) : sv_V E m_Wa_fewestRaised (d + 6) ss_i 0 (lv_args 0 [sv_r E 163, .int x1, .int x2]) [] (ss_e s) (F_Wa_fewestRaised x1 x2 s) := by
  show sv_V E m_Wa_fewestRaised (d + 6) ss_i 0 [(0, sv_r E 163), (1, .int x1), (2, .int x2)] [] (ss_e s) _
  unfold F_Wa_fewestRaised
  refine sv_iconst (pc := 0) (v := (1 : Int32)) (sv_d k_Wa_fewestRaised 0 rfl) (by decide) ?_
  refine sv_aload_n (pc := 1) 0 (sv_d k_Wa_fewestRaised 1 rfl) rfl rfl ?_
  refine sv_getf (pc := 2) 14 (sv_d k_Wa_fewestRaised 2 rfl) cf10 (by decide) w433 kd163 (ss_lt (by decide)) rfl ?_
  refine sv_ishl (pc := 5) (sv_d k_Wa_fewestRaised 3 rfl) ?_
  refine ss_top (fun v1 e_v1 => ?_)
  refine sv_istore_n (pc := 6) (lv' := [(3, .int v1), (0, sv_r E 163), (1, .int x1), (2, .int x2)]) (sv_d k_Wa_fewestRaised 4 rfl) rfl (by decide) rfl ?_
  refine sv_aload_n (pc := 7) 1 (sv_d k_Wa_fewestRaised 5 rfl) rfl rfl ?_
  refine sv_getf (pc := 8) 12 (sv_d k_Wa_fewestRaised 6 rfl) cf10 (by decide) w430 kd163 (ss_lt (by decide)) (lr_163_12 E _) ?_
  refine sv_iconst (pc := 11) (v := (0 : Int32)) (sv_d k_Wa_fewestRaised 7 rfl) (by decide) ?_
  refine sv_callS (pc := 12) (ψ := ss_v) (As := [sv_r E 174, .int (0 : Int32)]) (rest := []) (sv_d k_Wa_fewestRaised 8 rfl) g_JA_fillI w1165 st_JA_fillI rfl (Nat.le_of_ble_eq_true rfl) (V_JA_fillI E (d + 5) 174 (0 : Int32) s kd174 (by decide) (ss_lt (s := s) (by decide))) (Nat.le_of_ble_eq_true rfl) rfl (fun r2 => ?_)
  show sv_V E _ _ _ 15 _ [] (ss_e r2) _
  refine sv_iconst (pc := 15) (v := (0 : Int32)) (sv_d k_Wa_fewestRaised 9 rfl) (by decide) ?_
  refine sv_istore (pc := 16) (lv' := [(4, .int (0 : Int32)), (3, .int v1), (0, sv_r E 163), (1, .int x1), (2, .int x2)]) (sv_d k_Wa_fewestRaised 10 rfl) (by decide) rfl ?_
  exact sv_loc [2, 3, 4, 1, 0] rfl (V_Wa_fewestRaised_b18 E d ss_F x1 x2 v1 (0 : Int32) r2)
/-! Ta_lay -/
abbrev m_Ta_lay : sv_M := (yX8_lay, cX8_lay, 4, none)
def t_Ta_lay : List (Nat × Instr × Nat) := [(0, .aload_n 0, 1), (1, .getfield 9, 3), (4, .iload_n 1, 1), (5, .iload_n 2, 1), (6, .iastore, 1), (7, .aload_n 0, 1), (8, .getfield 13, 3), (11, .iload_n 1, 1), (12, .iload_n 3, 1), (13, .iastore, 1), (14, .aload_n 0, 1), (15, .getfield 18, 3), (18, .iload_n 1, 1), (19, .aaload, 1), (20, .lconst 0, 1), (21, .invokestatic 27, 3), (24, .return_, 1)]
theorem k_Ta_lay : sv_tk m_Ta_lay.2.1 t_Ta_lay := by decide +kernel
theorem g_Ta_lay : sv_G m_Ta_lay 3 := ⟨by decide +kernel, sv_in 1272 (by decide +kernel) rfl, sv_in 102 (by decide +kernel) rfl, ⟨by decide, by decide⟩, by decide +kernel, by decide⟩
theorem in_Ta_lay : Cond.instanceMethod m_Ta_lay.1 ∈ sv_T := sv_in 1270 (by decide +kernel) rfl
theorem se_Ta_lay : Cond.selects m_Ta_lay.1.cls m_Ta_lay.1 m_Ta_lay.1 ∈ sv_T := sv_in 1271 (by decide +kernel) rfl
def F_Ta_lay (x1 : Int32) (x2 : Int32) (x3 : Int32) (s : sv_S) : Option (sv_S) :=
  if sv_ib x1 6 = true then
    ss_let (ss_setI s 178 x1.toNatClampNeg x2) fun s1 =>
    if sv_ib x1 6 = true then
      ss_let (ss_setI s1 179 x1.toNatClampNeg x3) fun s2 =>
      if sv_ib x1 6 = true then
        (F_JA_fillL (181 + x1.toNatClampNeg) (0 : Int64) s2).bind fun r4 =>
        some r4
      else none
    else none
  else none
theorem V_Ta_lay (E : sv_E) (d : Nat) (x1 : Int32) (x2 : Int32) (x3 : Int32) (s : sv_S) : sv_V E m_Ta_lay (d + 1) ss_v 0 (lv_args 0 [sv_r E 177, .int x1, .int x2, .int x3]) [] (ss_e s) (F_Ta_lay x1 x2 x3 s) := by
  show sv_V E m_Ta_lay (d + 1) ss_v 0 [(0, sv_r E 177), (1, .int x1), (2, .int x2), (3, .int x3)] [] (ss_e s) _
  unfold F_Ta_lay
  refine sv_aload_n (pc := 0) 0 (sv_d k_Ta_lay 0 rfl) rfl rfl ?_
  refine sv_getf (pc := 1) 0 (sv_d k_Ta_lay 1 rfl) cf8 (by decide) w502 kd177 (ss_lt (by decide)) (lr_177_0 E _) ?_
  refine sv_iload_n (pc := 4) 1 (sv_d k_Ta_lay 2 rfl) rfl rfl ?_
  refine sv_iload_n (pc := 5) 2 (sv_d k_Ta_lay 3 rfl) rfl rfl ?_
  refine ss_iast (pc := 6) (n := 6) (sv_d k_Ta_lay 4 rfl) kd178 (by decide) (ss_lt (by decide)) rfl (ss_lets (fun s1 e_s1 => ?_))
  refine sv_aload_n (pc := 7) 0 (sv_d k_Ta_lay 5 rfl) rfl rfl ?_
  refine sv_getf (pc := 8) 1 (sv_d k_Ta_lay 6 rfl) cf8 (by decide) w504 kd177 (ss_lt (by decide)) (lr_177_1 E _) ?_
  refine sv_iload_n (pc := 11) 1 (sv_d k_Ta_lay 7 rfl) rfl rfl ?_
  refine sv_iload_n (pc := 12) 3 (sv_d k_Ta_lay 8 rfl) rfl rfl ?_
  refine ss_iast (pc := 13) (n := 6) (sv_d k_Ta_lay 9 rfl) kd179 (by decide) (ss_lt (by decide)) rfl (ss_lets (fun s2 e_s2 => ?_))
  refine sv_aload_n (pc := 14) 0 (sv_d k_Ta_lay 10 rfl) rfl rfl ?_
  refine sv_getf (pc := 15) 2 (sv_d k_Ta_lay 11 rfl) cf8 (by decide) w506 kd177 (ss_lt (by decide)) (lr_177_2 E _) ?_
  refine sv_iload_n (pc := 18) 1 (sv_d k_Ta_lay 12 rfl) rfl rfl ?_
  refine ss_aaldT (pc := 19) (n := 6) (b := 181) (sv_d k_Ta_lay 13 rfl) kd180 (by decide) (by decide) rfl (ss_lt (by decide)) rfl ss_row180 (by decide) (fun _ => rfl) (fun bb3 => ?_)
  refine sv_lconst (pc := 20) (v := (0 : Int64)) (sv_d k_Ta_lay 14 rfl) (by decide) ?_
  refine sv_callS (pc := 21) (ψ := ss_v) (As := [sv_r E (181 + x1.toNatClampNeg), .long (0 : Int64)]) (rest := []) (sv_d k_Ta_lay 15 rfl) g_JA_fillL w1273 st_JA_fillL rfl (Nat.le_of_ble_eq_true rfl) (V_JA_fillL E (d + 0) (181 + x1.toNatClampNeg) (0 : Int64) s2 (ss_kr180 _ bb3) (Nat.le_trans (by decide : 64 ≤ 181) (Nat.le_add_right _ _)) (ss_ltr (by decide : 181 + 6 ≤ 243) bb3)) (Nat.le_of_ble_eq_true rfl) rfl (fun r4 => ?_)
  show sv_V E _ _ _ 24 _ [] (ss_e r4) _
  exact sv_retv (pc := 24) (sv_d k_Ta_lay 16 rfl) rfl rfl
/-! Ta_reaches -/
abbrev m_Ta_reaches : sv_M := (yX8_reaches, cX8_reaches, 4, (some .boolean))
def t_Ta_reaches : List (Nat × Instr × Nat) := [(0, .iload_n 2, 1), (1, .ifCond .lt 27, 3), (4, .iload_n 3, 1), (5, .ifCond .lt 23, 3), (8, .iload_n 2, 1), (9, .i2l, 1), (10, .iload_n 3, 1), (11, .i2l, 1), (12, .ladd, 1), (13, .aload_n 0, 1), (14, .getfield 13, 3), (17, .iload_n 1, 1), (18, .iaload, 1), (19, .i2l, 1), (20, .lcmp, 1), (21, .ifCond .gt 7, 3), (24, .iconst 1, 1), (25, .goto 4, 3), (28, .iconst 0, 1), (29, .ireturn, 1)]
theorem k_Ta_reaches : sv_tk m_Ta_reaches.2.1 t_Ta_reaches := by decide +kernel
theorem g_Ta_reaches : sv_G m_Ta_reaches 3 := ⟨by decide +kernel, sv_in 1283 (by decide +kernel) rfl, sv_in 102 (by decide +kernel) rfl, ⟨by decide, by decide⟩, by decide +kernel, by decide⟩
theorem in_Ta_reaches : Cond.instanceMethod m_Ta_reaches.1 ∈ sv_T := sv_in 1281 (by decide +kernel) rfl
theorem se_Ta_reaches : Cond.selects m_Ta_reaches.1.cls m_Ta_reaches.1 m_Ta_reaches.1 ∈ sv_T := sv_in 1282 (by decide +kernel) rfl
def F_Ta_reaches (x1 : Int32) (x2 : Int32) (x3 : Int32) (s : sv_S) : Option (Int32) :=
  if x2 < 0 then
    some (0 : Int32)
  else
  if x3 < 0 then
    some (0 : Int32)
  else
  if sv_ib x1 6 = true then
    if 0 < (lg_cmp (x2.toInt64 + x3.toInt64) ((s.1 179 x1.toNatClampNeg).toInt64)) then
      some (0 : Int32)
    else
    some (1 : Int32)
  else none
theorem V_Ta_reaches (E : sv_E) (d : Nat) (x1 : Int32) (x2 : Int32) (x3 : Int32) (s : sv_S) : sv_V E m_Ta_reaches (d + 0) (ss_pi s) 0 (lv_args 0 [sv_r E 177, .int x1, .int x2, .int x3]) [] (ss_e s) (F_Ta_reaches x1 x2 x3 s) := by
  show sv_V E m_Ta_reaches (d + 0) (ss_pi s) 0 [(0, sv_r E 177), (1, .int x1), (2, .int x2), (3, .int x3)] [] (ss_e s) _
  unfold F_Ta_reaches
  refine sv_iload_n (pc := 0) 2 (sv_d k_Ta_reaches 0 rfl) rfl rfl ?_
  refine sv_if_lt (pc := 1) (tgt := 28) (sv_d k_Ta_reaches 1 rfl) (by decide) ?_ ?_
  · refine sv_iconst (pc := 28) (v := (0 : Int32)) (sv_d k_Ta_reaches 18 rfl) (by decide) ?_
    exact sv_ret (pc := 29) (sv_d k_Ta_reaches 19 rfl) ⟨_, rfl, rfl⟩ rfl
  · refine sv_iload_n (pc := 4) 3 (sv_d k_Ta_reaches 2 rfl) rfl rfl ?_
    refine sv_if_lt (pc := 5) (tgt := 28) (sv_d k_Ta_reaches 3 rfl) (by decide) ?_ ?_
    · refine sv_iconst (pc := 28) (v := (0 : Int32)) (sv_d k_Ta_reaches 18 rfl) (by decide) ?_
      exact sv_ret (pc := 29) (sv_d k_Ta_reaches 19 rfl) ⟨_, rfl, rfl⟩ rfl
    · refine sv_iload_n (pc := 8) 2 (sv_d k_Ta_reaches 4 rfl) rfl rfl ?_
      refine sv_i2l (pc := 9) (sv_d k_Ta_reaches 5 rfl) ?_
      refine sv_iload_n (pc := 10) 3 (sv_d k_Ta_reaches 6 rfl) rfl rfl ?_
      refine sv_i2l (pc := 11) (sv_d k_Ta_reaches 7 rfl) ?_
      refine sv_ladd (pc := 12) (sv_d k_Ta_reaches 8 rfl) ?_
      refine sv_aload_n (pc := 13) 0 (sv_d k_Ta_reaches 9 rfl) rfl rfl ?_
      refine sv_getf (pc := 14) 1 (sv_d k_Ta_reaches 10 rfl) cf8 (by decide) w504 kd177 (ss_lt (by decide)) (lr_177_1 E _) ?_
      refine sv_iload_n (pc := 17) 1 (sv_d k_Ta_reaches 11 rfl) rfl rfl ?_
      refine ss_iald (pc := 18) (n := 6) (sv_d k_Ta_reaches 12 rfl) kd179 (ss_lt (by decide)) rfl ?_
      refine sv_i2l (pc := 19) (sv_d k_Ta_reaches 13 rfl) ?_
      refine sv_lcmp (pc := 20) (sv_d k_Ta_reaches 14 rfl) ?_
      refine sv_if_gt (pc := 21) (tgt := 28) (sv_d k_Ta_reaches 15 rfl) (by decide) ?_ ?_
      · refine sv_iconst (pc := 28) (v := (0 : Int32)) (sv_d k_Ta_reaches 18 rfl) (by decide) ?_
        exact sv_ret (pc := 29) (sv_d k_Ta_reaches 19 rfl) ⟨_, rfl, rfl⟩ rfl
      · refine sv_iconst (pc := 24) (v := (1 : Int32)) (sv_d k_Ta_reaches 16 rfl) (by decide) ?_
        refine sv_goto (pc := 25) (tgt := 29) (sv_d k_Ta_reaches 17 rfl) (by decide) ?_
        exact sv_ret (pc := 29) (sv_d k_Ta_reaches 19 rfl) ⟨_, rfl, rfl⟩ rfl
/-! Ta_cut -/
abbrev m_Ta_cut : sv_M := (yX8_cut, cX8_cut, 3, (some .long))
def t_Ta_cut : List (Nat × Instr × Nat) := [(0, .iload_n 0, 1), (1, .tableswitch (41) (0) (2) #[27, 32, 37], 27), (28, .lload_n 1, 1), (29, .l2i, 1), (30, .i2b, 1), (31, .i2l, 1), (32, .lreturn, 1), (33, .lload_n 1, 1), (34, .l2i, 1), (35, .i2s, 1), (36, .i2l, 1), (37, .lreturn, 1), (38, .lload_n 1, 1), (39, .l2i, 1), (40, .i2l, 1), (41, .lreturn, 1), (42, .lload_n 1, 1), (43, .lreturn, 1)]
theorem k_Ta_cut : sv_tk m_Ta_cut.2.1 t_Ta_cut := by decide +kernel
theorem g_Ta_cut : sv_G m_Ta_cut 2 := ⟨by decide +kernel, sv_in 1286 (by decide +kernel) rfl, sv_in 102 (by decide +kernel) rfl, ⟨by decide, by decide⟩, by decide +kernel, by decide⟩
theorem st_Ta_cut : Cond.static m_Ta_cut.1 ∈ sv_T := sv_in 1285 (by decide +kernel) rfl
def F_Ta_cut (x0 : Int32) (y1 : Int64) (s : sv_S) : Option (Int64) :=
  if x0 = (0 : Int32) then
    some y1.toInt32.toInt8.toInt32.toInt64
  else if x0 = (1 : Int32) then
    some y1.toInt32.toInt16.toInt32.toInt64
  else if x0 = (2 : Int32) then
    some y1.toInt32.toInt64
  else 
  some y1
theorem V_Ta_cut (E : sv_E) (d : Nat) (x0 : Int32) (y1 : Int64) (s : sv_S) : sv_V E m_Ta_cut (d + 0) (ss_pl s) 0 (lv_args 0 [.int x0, .long y1]) [] (ss_e s) (F_Ta_cut x0 y1 s) := by
  show sv_V E m_Ta_cut (d + 0) (ss_pl s) 0 [(0, .int x0), (1, .long y1)] [] (ss_e s) _
  unfold F_Ta_cut
  refine sv_iload_n (pc := 0) 0 (sv_d k_Ta_cut 0 rfl) rfl rfl ?_
  refine ss_dec (fun hh1 => ?_) (fun hh1 => ?_)
  · refine sv_tab (pc := 1) (tgt := 28) (sv_d k_Ta_cut 1 rfl) (0 : Int32) hh1 (by decide) (by decide) rfl (by decide) ?_
    refine sv_lload_n (pc := 28) 1 (sv_d k_Ta_cut 2 rfl) rfl rfl ?_
    refine sv_l2i (pc := 29) (sv_d k_Ta_cut 3 rfl) ?_
    refine sv_i2b (pc := 30) (sv_d k_Ta_cut 4 rfl) ?_
    refine sv_i2l (pc := 31) (sv_d k_Ta_cut 5 rfl) ?_
    exact sv_ret (pc := 32) (sv_d k_Ta_cut 6 rfl) ⟨_, rfl⟩ rfl
  · refine ss_dec (fun hh2 => ?_) (fun hh2 => ?_)
    · refine sv_tab (pc := 1) (tgt := 33) (sv_d k_Ta_cut 1 rfl) (1 : Int32) hh2 (by decide) (by decide) rfl (by decide) ?_
      refine sv_lload_n (pc := 33) 1 (sv_d k_Ta_cut 7 rfl) rfl rfl ?_
      refine sv_l2i (pc := 34) (sv_d k_Ta_cut 8 rfl) ?_
      refine sv_i2s (pc := 35) (sv_d k_Ta_cut 9 rfl) ?_
      refine sv_i2l (pc := 36) (sv_d k_Ta_cut 10 rfl) ?_
      exact sv_ret (pc := 37) (sv_d k_Ta_cut 11 rfl) ⟨_, rfl⟩ rfl
    · refine ss_dec (fun hh3 => ?_) (fun hh3 => ?_)
      · refine sv_tab (pc := 1) (tgt := 38) (sv_d k_Ta_cut 1 rfl) (2 : Int32) hh3 (by decide) (by decide) rfl (by decide) ?_
        refine sv_lload_n (pc := 38) 1 (sv_d k_Ta_cut 12 rfl) rfl rfl ?_
        refine sv_l2i (pc := 39) (sv_d k_Ta_cut 13 rfl) ?_
        refine sv_i2l (pc := 40) (sv_d k_Ta_cut 14 rfl) ?_
        exact sv_ret (pc := 41) (sv_d k_Ta_cut 15 rfl) ⟨_, rfl⟩ rfl
      · refine sv_tabD (pc := 1) (tgt := 42) (sv_d k_Ta_cut 1 rfl) (by rcases Int.lt_or_le (Int32.toInt x0) (0) with q | q; exact Or.inl q; have q := (sv_nlt (sv_nlt (sv_nlt q (lv_neT hh1 rfl)) (lv_neT hh2 rfl)) (lv_neT hh3 rfl)); exact Or.inr (by omega)) (by decide) ?_
        refine sv_lload_n (pc := 42) 1 (sv_d k_Ta_cut 16 rfl) rfl rfl ?_
        exact sv_ret (pc := 43) (sv_d k_Ta_cut 17 rfl) ⟨_, rfl⟩ rfl
/-! Ac_forget -/
abbrev m_Ac_forget : sv_M := (yX0_forget, cX0_forget, 1, none)
def t_Ac_forget : List (Nat × Instr × Nat) := [(0, .aload_n 0, 1), (1, .iconst 0, 1), (2, .putfield 15, 3), (5, .return_, 1)]
theorem k_Ac_forget : sv_tk m_Ac_forget.2.1 t_Ac_forget := by decide +kernel
theorem g_Ac_forget : sv_G m_Ac_forget 0 := ⟨by decide +kernel, sv_in 1221 (by decide +kernel) rfl, sv_in 101 (by decide +kernel) rfl, ⟨by decide, by decide⟩, by decide +kernel, by decide⟩
theorem in_Ac_forget : Cond.instanceMethod m_Ac_forget.1 ∈ sv_T := sv_in 1219 (by decide +kernel) rfl
theorem se_Ac_forget : Cond.selects m_Ac_forget.1.cls m_Ac_forget.1 m_Ac_forget.1 ∈ sv_T := sv_in 1220 (by decide +kernel) rfl
def F_Ac_forget (s : sv_S) : Option (sv_S) :=
  ss_let (ss_setI s 175 1 (0 : Int32)) fun s1 =>
  some s1
theorem V_Ac_forget (E : sv_E) (d : Nat) (s : sv_S) : sv_V E m_Ac_forget (d + 0) ss_v 0 (lv_args 0 [sv_r E 175]) [] (ss_e s) (F_Ac_forget s) := by
  show sv_V E m_Ac_forget (d + 0) ss_v 0 [(0, sv_r E 175)] [] (ss_e s) _
  unfold F_Ac_forget
  refine sv_aload_n (pc := 0) 0 (sv_d k_Ac_forget 0 rfl) rfl rfl ?_
  refine sv_iconst (pc := 1) (v := (0 : Int32)) (sv_d k_Ac_forget 1 rfl) (by decide) ?_
  refine ss_putI (pc := 2) 1 (sv_d k_Ac_forget 2 rfl) cf0 (by decide) rfl w474 kd175 (ss_lt (by decide)) rfl rfl (fun _ => rfl) (ss_lets (fun s1 e_s1 => ?_))
  exact sv_retv (pc := 5) (sv_d k_Ac_forget 3 rfl) rfl rfl
/-! Ac_keeps -/
abbrev m_Ac_keeps : sv_M := (yX0_keeps, cX0_keeps, 2, (some .boolean))
def t_Ac_keeps : List (Nat × Instr × Nat) := [(0, .iload_n 1, 1), (1, .ifCond .lt 21, 3), (4, .iload_n 1, 1), (5, .aload_n 0, 1), (6, .getfield 15, 3), (9, .if_icmp .ge 13, 3), (12, .iload_n 1, 1), (13, .bipush 20, 2), (15, .if_icmp .ge 7, 3), (18, .iconst 1, 1), (19, .goto 4, 3), (22, .iconst 0, 1), (23, .ireturn, 1)]
theorem k_Ac_keeps : sv_tk m_Ac_keeps.2.1 t_Ac_keeps := by decide +kernel
theorem g_Ac_keeps : sv_G m_Ac_keeps 1 := ⟨by decide +kernel, sv_in 1253 (by decide +kernel) rfl, sv_in 101 (by decide +kernel) rfl, ⟨by decide, by decide⟩, by decide +kernel, by decide⟩
theorem in_Ac_keeps : Cond.instanceMethod m_Ac_keeps.1 ∈ sv_T := sv_in 1251 (by decide +kernel) rfl
theorem se_Ac_keeps : Cond.selects m_Ac_keeps.1.cls m_Ac_keeps.1 m_Ac_keeps.1 ∈ sv_T := sv_in 1252 (by decide +kernel) rfl
def F_Ac_keeps (x1 : Int32) (s : sv_S) : Option (Int32) :=
  if x1 < 0 then
    some (0 : Int32)
  else
  if (s.1 175 1) ≤ x1 then
    some (0 : Int32)
  else
  if (20 : Int32) ≤ x1 then
    some (0 : Int32)
  else
  some (1 : Int32)
theorem V_Ac_keeps (E : sv_E) (d : Nat) (x1 : Int32) (s : sv_S) : sv_V E m_Ac_keeps (d + 0) (ss_pi s) 0 (lv_args 0 [sv_r E 175, .int x1]) [] (ss_e s) (F_Ac_keeps x1 s) := by
  show sv_V E m_Ac_keeps (d + 0) (ss_pi s) 0 [(0, sv_r E 175), (1, .int x1)] [] (ss_e s) _
  unfold F_Ac_keeps
  refine sv_iload_n (pc := 0) 1 (sv_d k_Ac_keeps 0 rfl) rfl rfl ?_
  refine sv_if_lt (pc := 1) (tgt := 22) (sv_d k_Ac_keeps 1 rfl) (by decide) ?_ ?_
  · refine sv_iconst (pc := 22) (v := (0 : Int32)) (sv_d k_Ac_keeps 11 rfl) (by decide) ?_
    exact sv_ret (pc := 23) (sv_d k_Ac_keeps 12 rfl) ⟨_, rfl, rfl⟩ rfl
  · refine sv_iload_n (pc := 4) 1 (sv_d k_Ac_keeps 2 rfl) rfl rfl ?_
    refine sv_aload_n (pc := 5) 0 (sv_d k_Ac_keeps 3 rfl) rfl rfl ?_
    refine sv_getf (pc := 6) 1 (sv_d k_Ac_keeps 4 rfl) cf0 (by decide) w474 kd175 (ss_lt (by decide)) rfl ?_
    refine sv_icmp_ge (pc := 9) (tgt := 22) (sv_d k_Ac_keeps 5 rfl) (by decide) ?_ ?_
    · refine sv_iconst (pc := 22) (v := (0 : Int32)) (sv_d k_Ac_keeps 11 rfl) (by decide) ?_
      exact sv_ret (pc := 23) (sv_d k_Ac_keeps 12 rfl) ⟨_, rfl, rfl⟩ rfl
    · refine sv_iload_n (pc := 12) 1 (sv_d k_Ac_keeps 6 rfl) rfl rfl ?_
      refine sv_bipush (pc := 13) (v := (20 : Int32)) (sv_d k_Ac_keeps 7 rfl) (by decide) ?_
      refine sv_icmp_ge (pc := 15) (tgt := 22) (sv_d k_Ac_keeps 8 rfl) (by decide) ?_ ?_
      · refine sv_iconst (pc := 22) (v := (0 : Int32)) (sv_d k_Ac_keeps 11 rfl) (by decide) ?_
        exact sv_ret (pc := 23) (sv_d k_Ac_keeps 12 rfl) ⟨_, rfl, rfl⟩ rfl
      · refine sv_iconst (pc := 18) (v := (1 : Int32)) (sv_d k_Ac_keeps 9 rfl) (by decide) ?_
        refine sv_goto (pc := 19) (tgt := 23) (sv_d k_Ac_keeps 10 rfl) (by decide) ?_
        exact sv_ret (pc := 23) (sv_d k_Ac_keeps 12 rfl) ⟨_, rfl, rfl⟩ rfl
/-! Ac_isUnder -/
abbrev m_Ac_isUnder : sv_M := (yX0_isUnder, cX0_isUnder, 4, (some .boolean))
def t_Ac_isUnder : List (Nat × Instr × Nat) := [(0, .iload_n 0, 1), (1, .istore_n 2, 1), (2, .iconst 0, 1), (3, .istore_n 3, 1), (4, .iload_n 3, 1), (5, .bipush 7, 2), (7, .if_icmp .ge 27, 3), (10, .iload_n 2, 1), (11, .iconst (-1), 1), (12, .if_icmp .eq 22, 3), (15, .iload_n 2, 1), (16, .iload_n 1, 1), (17, .if_icmp .ne 5, 3), (20, .iconst 1, 1), (21, .ireturn, 1), (22, .getstatic 19, 3), (25, .iload_n 2, 1), (26, .iaload, 1), (27, .istore_n 2, 1), (28, .iinc 3 1, 3), (31, .goto (-27), 3), (34, .iconst 0, 1), (35, .ireturn, 1)]
theorem k_Ac_isUnder : sv_tk m_Ac_isUnder.2.1 t_Ac_isUnder := by decide +kernel
theorem g_Ac_isUnder : sv_G m_Ac_isUnder 2 := ⟨by decide +kernel, sv_in 1260 (by decide +kernel) rfl, sv_in 101 (by decide +kernel) rfl, ⟨by decide, by decide⟩, by decide +kernel, by decide⟩
theorem st_Ac_isUnder : Cond.static m_Ac_isUnder.1 ∈ sv_T := sv_in 1259 (by decide +kernel) rfl
def F_Ac_isUnder_b4 (s : sv_S) : Nat → Int32 → Int32 → Int32 → Option (Int32)
  | 0 => fun _ _ _ => none
  | n + 1 => fun x1 x2 x3 =>
    if (7 : Int32) ≤ x3 then
      some (0 : Int32)
    else
    if x2 = (-1 : Int32) then
      some (0 : Int32)
    else
    if x2 = x1 then
      some (1 : Int32)
    else
    if sv_ib x2 7 = true then
      ss_let (s.1 1 x2.toNatClampNeg) fun v1 =>
      ss_let (x3 + (1 : Int32)) fun v2 =>
      F_Ac_isUnder_b4 s n x1 v1 v2
    else none
theorem V_Ac_isUnder_b4 (E : sv_E) (d : Nat) (s : sv_S) : ∀ (n : Nat) (x1 : Int32) (x2 : Int32) (x3 : Int32), sv_V E m_Ac_isUnder (d + 0) (ss_pi s) 4 [(1, .int x1), (2, .int x2), (3, .int x3)] [] (ss_e s) (F_Ac_isUnder_b4 s n x1 x2 x3) := by
  intro n
  induction n with
  | zero => intro x1 x2 x3; exact sv_none
  | succ n ih =>
    intro x1 x2 x3
    unfold F_Ac_isUnder_b4
    refine sv_iload_n (pc := 4) 2 (sv_d k_Ac_isUnder 4 rfl) rfl rfl ?_
    refine sv_bipush (pc := 5) (v := (7 : Int32)) (sv_d k_Ac_isUnder 5 rfl) (by decide) ?_
    refine sv_icmp_ge (pc := 7) (tgt := 34) (sv_d k_Ac_isUnder 6 rfl) (by decide) ?_ ?_
    · refine sv_iconst (pc := 34) (v := (0 : Int32)) (sv_d k_Ac_isUnder 21 rfl) (by decide) ?_
      exact sv_ret (pc := 35) (sv_d k_Ac_isUnder 22 rfl) ⟨_, rfl, rfl⟩ rfl
    · refine sv_iload_n (pc := 10) 1 (sv_d k_Ac_isUnder 7 rfl) rfl rfl ?_
      refine sv_iconst (pc := 11) (v := (-1 : Int32)) (sv_d k_Ac_isUnder 8 rfl) (by decide) ?_
      refine sv_icmp_eq (pc := 12) (tgt := 34) (sv_d k_Ac_isUnder 9 rfl) (by decide) ?_ ?_
      · refine sv_iconst (pc := 34) (v := (0 : Int32)) (sv_d k_Ac_isUnder 21 rfl) (by decide) ?_
        exact sv_ret (pc := 35) (sv_d k_Ac_isUnder 22 rfl) ⟨_, rfl, rfl⟩ rfl
      · refine sv_iload_n (pc := 15) 1 (sv_d k_Ac_isUnder 10 rfl) rfl rfl ?_
        refine sv_iload_n (pc := 16) 0 (sv_d k_Ac_isUnder 11 rfl) rfl rfl ?_
        refine sv_icmp_ne (pc := 17) (tgt := 22) (sv_d k_Ac_isUnder 12 rfl) (by decide) ?_ ?_
        · refine sv_gets (pc := 22) (ss_st1 E) (sv_d k_Ac_isUnder 15 rfl) w1236 ?_
          refine sv_iload_n (pc := 25) 1 (sv_d k_Ac_isUnder 16 rfl) rfl rfl ?_
          refine ss_iald (pc := 26) (n := 7) (sv_d k_Ac_isUnder 17 rfl) kd1 (ss_lt (by decide)) rfl ?_
          refine ss_top (fun v1 e_v1 => ?_)
          refine sv_istore_n (pc := 27) (lv' := [(2, .int v1), (1, .int x1), (3, .int x3)]) (sv_d k_Ac_isUnder 18 rfl) rfl (by decide) rfl ?_
          refine ss_letr (fun v2 e_v2 => ?_)
          refine sv_iinc (pc := 28) (v := v2) (lv' := [(3, .int v2), (2, .int v1), (1, .int x1)]) (sv_d k_Ac_isUnder 19 rfl) (n := 2) rfl (by rw [e_v2]; rfl) (by decide) rfl ?_
          refine sv_goto (pc := 31) (tgt := 4) (sv_d k_Ac_isUnder 20 rfl) (by decide) ?_
          exact sv_loc [2, 1, 0] rfl (ih x1 v1 v2)
        · refine sv_iconst (pc := 20) (v := (1 : Int32)) (sv_d k_Ac_isUnder 13 rfl) (by decide) ?_
          exact sv_ret (pc := 21) (sv_d k_Ac_isUnder 14 rfl) ⟨_, rfl, rfl⟩ rfl
def F_Ac_isUnder (x0 : Int32) (x1 : Int32) (s : sv_S) : Option (Int32) :=
  F_Ac_isUnder_b4 s ss_F x1 x0 (0 : Int32)
theorem V_Ac_isUnder (E : sv_E) (d : Nat) (x0 : Int32) (x1 : Int32) (s : sv_S) : sv_V E m_Ac_isUnder (d + 0) (ss_pi s) 0 (lv_args 0 [.int x0, .int x1]) [] (ss_e s) (F_Ac_isUnder x0 x1 s) := by
  show sv_V E m_Ac_isUnder (d + 0) (ss_pi s) 0 [(0, .int x0), (1, .int x1)] [] (ss_e s) _
  unfold F_Ac_isUnder
  refine sv_iload_n (pc := 0) 0 (sv_d k_Ac_isUnder 0 rfl) rfl rfl ?_
  refine sv_istore_n (pc := 1) (lv' := [(2, .int x0), (0, .int x0), (1, .int x1)]) (sv_d k_Ac_isUnder 1 rfl) rfl (by decide) rfl ?_
  refine sv_iconst (pc := 2) (v := (0 : Int32)) (sv_d k_Ac_isUnder 2 rfl) (by decide) ?_
  refine sv_istore_n (pc := 3) (lv' := [(3, .int (0 : Int32)), (2, .int x0), (0, .int x0), (1, .int x1)]) (sv_d k_Ac_isUnder 3 rfl) rfl (by decide) rfl ?_
  exact sv_loc [3, 1, 0] rfl (V_Ac_isUnder_b4 E d s ss_F x1 x0 (0 : Int32))
/-! Ac_bodyFrom -/
abbrev m_Ac_bodyFrom : sv_M := (yX0_bodyFrom, cX0_bodyFrom, 5, (some .int))
def t_Ac_bodyFrom : List (Nat × Instr × Nat) := [(0, .iload_n 0, 1), (1, .istore_n 2, 1), (2, .iconst 0, 1), (3, .istore_n 3, 1), (4, .iload_n 3, 1), (5, .bipush 7, 2), (7, .if_icmp .ge 39, 3), (10, .iload_n 2, 1), (11, .iconst (-1), 1), (12, .if_icmp .eq 34, 3), (15, .getstatic 46, 3), (18, .iload_n 2, 1), (19, .iconst 3, 1), (20, .imul, 1), (21, .iload_n 1, 1), (22, .iadd, 1), (23, .iaload, 1), (24, .istore 4, 2), (26, .iload 4, 2), (28, .ifCond .eq 6, 3), (31, .iload 4, 2), (33, .ireturn, 1), (34, .getstatic 19, 3), (37, .iload_n 2, 1), (38, .iaload, 1), (39, .istore_n 2, 1), (40, .iinc 3 1, 3), (43, .goto (-39), 3), (46, .iconst 0, 1), (47, .ireturn, 1)]
theorem k_Ac_bodyFrom : sv_tk m_Ac_bodyFrom.2.1 t_Ac_bodyFrom := by decide +kernel
theorem g_Ac_bodyFrom : sv_G m_Ac_bodyFrom 2 := ⟨by decide +kernel, sv_in 1233 (by decide +kernel) rfl, sv_in 101 (by decide +kernel) rfl, ⟨by decide, by decide⟩, by decide +kernel, by decide⟩
theorem st_Ac_bodyFrom : Cond.static m_Ac_bodyFrom.1 ∈ sv_T := sv_in 1232 (by decide +kernel) rfl
def F_Ac_bodyFrom_b4 (s : sv_S) : Nat → Int32 → Int32 → Int32 → Option (Int32)
  | 0 => fun _ _ _ => none
  | n + 1 => fun x1 x2 x3 =>
    if (7 : Int32) ≤ x3 then
      some (0 : Int32)
    else
    if x2 = (-1 : Int32) then
      some (0 : Int32)
    else
    if sv_ib ((x2 * (3 : Int32)) + x1) 21 = true then
      ss_let (s.1 2 ((x2 * (3 : Int32)) + x1).toNatClampNeg) fun v1 =>
      if v1 = 0 then
        if sv_ib x2 7 = true then
          ss_let (s.1 1 x2.toNatClampNeg) fun v2 =>
          ss_let (x3 + (1 : Int32)) fun v3 =>
          F_Ac_bodyFrom_b4 s n x1 v2 v3
        else none
      else
      some v1
    else none
theorem V_Ac_bodyFrom_b4 (E : sv_E) (d : Nat) (s : sv_S) : ∀ (n : Nat) (x1 : Int32) (x2 : Int32) (x3 : Int32), sv_V E m_Ac_bodyFrom (d + 0) (ss_pi s) 4 [(1, .int x1), (2, .int x2), (3, .int x3)] [] (ss_e s) (F_Ac_bodyFrom_b4 s n x1 x2 x3) := by
  intro n
  induction n with
  | zero => intro x1 x2 x3; exact sv_none
  | succ n ih =>
    intro x1 x2 x3
    unfold F_Ac_bodyFrom_b4
    refine sv_iload_n (pc := 4) 2 (sv_d k_Ac_bodyFrom 4 rfl) rfl rfl ?_
    refine sv_bipush (pc := 5) (v := (7 : Int32)) (sv_d k_Ac_bodyFrom 5 rfl) (by decide) ?_
    refine sv_icmp_ge (pc := 7) (tgt := 46) (sv_d k_Ac_bodyFrom 6 rfl) (by decide) ?_ ?_
    · refine sv_iconst (pc := 46) (v := (0 : Int32)) (sv_d k_Ac_bodyFrom 28 rfl) (by decide) ?_
      exact sv_ret (pc := 47) (sv_d k_Ac_bodyFrom 29 rfl) ⟨_, rfl, rfl⟩ rfl
    · refine sv_iload_n (pc := 10) 1 (sv_d k_Ac_bodyFrom 7 rfl) rfl rfl ?_
      refine sv_iconst (pc := 11) (v := (-1 : Int32)) (sv_d k_Ac_bodyFrom 8 rfl) (by decide) ?_
      refine sv_icmp_eq (pc := 12) (tgt := 46) (sv_d k_Ac_bodyFrom 9 rfl) (by decide) ?_ ?_
      · refine sv_iconst (pc := 46) (v := (0 : Int32)) (sv_d k_Ac_bodyFrom 28 rfl) (by decide) ?_
        exact sv_ret (pc := 47) (sv_d k_Ac_bodyFrom 29 rfl) ⟨_, rfl, rfl⟩ rfl
      · refine sv_gets (pc := 15) (ss_st2 E) (sv_d k_Ac_bodyFrom 10 rfl) w1234 ?_
        refine sv_iload_n (pc := 18) 1 (sv_d k_Ac_bodyFrom 11 rfl) rfl rfl ?_
        refine sv_iconst (pc := 19) (v := (3 : Int32)) (sv_d k_Ac_bodyFrom 12 rfl) (by decide) ?_
        refine sv_imul (pc := 20) (sv_d k_Ac_bodyFrom 13 rfl) ?_
        refine sv_iload_n (pc := 21) 0 (sv_d k_Ac_bodyFrom 14 rfl) rfl rfl ?_
        refine sv_iadd (pc := 22) (sv_d k_Ac_bodyFrom 15 rfl) ?_
        refine ss_iald (pc := 23) (n := 21) (sv_d k_Ac_bodyFrom 16 rfl) kd2 (ss_lt (by decide)) rfl ?_
        refine ss_top (fun v1 e_v1 => ?_)
        refine sv_istore (pc := 24) (lv' := [(4, .int v1), (1, .int x1), (2, .int x2), (3, .int x3)]) (sv_d k_Ac_bodyFrom 17 rfl) (by decide) rfl ?_
        refine sv_iload (pc := 26) 0 (sv_d k_Ac_bodyFrom 18 rfl) rfl ?_
        refine sv_if_eq (pc := 28) (tgt := 34) (sv_d k_Ac_bodyFrom 19 rfl) (by decide) ?_ ?_
        · refine sv_gets (pc := 34) (ss_st1 E) (sv_d k_Ac_bodyFrom 22 rfl) w1236 ?_
          refine sv_iload_n (pc := 37) 2 (sv_d k_Ac_bodyFrom 23 rfl) rfl rfl ?_
          refine ss_iald (pc := 38) (n := 7) (sv_d k_Ac_bodyFrom 24 rfl) kd1 (ss_lt (by decide)) rfl ?_
          refine ss_top (fun v2 e_v2 => ?_)
          refine sv_istore_n (pc := 39) (lv' := [(2, .int v2), (4, .int v1), (1, .int x1), (3, .int x3)]) (sv_d k_Ac_bodyFrom 25 rfl) rfl (by decide) rfl ?_
          refine ss_letr (fun v3 e_v3 => ?_)
          refine sv_iinc (pc := 40) (v := v3) (lv' := [(3, .int v3), (2, .int v2), (4, .int v1), (1, .int x1)]) (sv_d k_Ac_bodyFrom 26 rfl) (n := 3) rfl (by rw [e_v3]; rfl) (by decide) rfl ?_
          refine sv_goto (pc := 43) (tgt := 4) (sv_d k_Ac_bodyFrom 27 rfl) (by decide) ?_
          exact sv_loc [3, 1, 0] rfl (ih x1 v2 v3)
        · refine sv_iload (pc := 31) 0 (sv_d k_Ac_bodyFrom 20 rfl) rfl ?_
          exact sv_ret (pc := 33) (sv_d k_Ac_bodyFrom 21 rfl) ⟨_, rfl, rfl⟩ rfl
def F_Ac_bodyFrom (x0 : Int32) (x1 : Int32) (s : sv_S) : Option (Int32) :=
  F_Ac_bodyFrom_b4 s ss_F x1 x0 (0 : Int32)
theorem V_Ac_bodyFrom (E : sv_E) (d : Nat) (x0 : Int32) (x1 : Int32) (s : sv_S) : sv_V E m_Ac_bodyFrom (d + 0) (ss_pi s) 0 (lv_args 0 [.int x0, .int x1]) [] (ss_e s) (F_Ac_bodyFrom x0 x1 s) := by
  show sv_V E m_Ac_bodyFrom (d + 0) (ss_pi s) 0 [(0, .int x0), (1, .int x1)] [] (ss_e s) _
  unfold F_Ac_bodyFrom
  refine sv_iload_n (pc := 0) 0 (sv_d k_Ac_bodyFrom 0 rfl) rfl rfl ?_
  refine sv_istore_n (pc := 1) (lv' := [(2, .int x0), (0, .int x0), (1, .int x1)]) (sv_d k_Ac_bodyFrom 1 rfl) rfl (by decide) rfl ?_
  refine sv_iconst (pc := 2) (v := (0 : Int32)) (sv_d k_Ac_bodyFrom 2 rfl) (by decide) ?_
  refine sv_istore_n (pc := 3) (lv' := [(3, .int (0 : Int32)), (2, .int x0), (0, .int x0), (1, .int x1)]) (sv_d k_Ac_bodyFrom 3 rfl) rfl (by decide) rfl ?_
  exact sv_loc [3, 1, 0] rfl (V_Ac_bodyFrom_b4 E d s ss_F x1 x0 (0 : Int32))
