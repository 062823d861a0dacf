/-! Mo_truck -/
abbrev m_Mo_truck : sv_M := (yX12_truck, cX12_truck, 6, (some .int))
def t_Mo_truck : List (Nat × Instr × Nat) := [(0, .aload_n 0, 1), (1, .iload_n 1, 1), (2, .invokevirtual 372, 3), (5, .ifCond .eq 11, 3), (8, .aload_n 0, 1), (9, .iload_n 2, 1), (10, .invokevirtual 369, 3), (13, .ifCond .ne 5, 3), (16, .iconst (-1), 1), (17, .ireturn, 1), (18, .aload_n 0, 1), (19, .iload_n 3, 1), (20, .invokevirtual 379, 3), (23, .ifCond .eq 30, 3), (26, .aload_n 0, 1), (27, .iload 4, 2), (29, .iconst 0, 1), (30, .ldc_w 392, 3), (33, .invokevirtual 251, 3), (36, .ifCond .eq 17, 3), (39, .aload_n 0, 1), (40, .iload 5, 2), (42, .iconst 0, 1), (43, .aload_n 0, 1), (44, .getfield 7, 3), (47, .invokevirtual 251, 3), (50, .ifCond .ne 6, 3), (53, .bipush (-2), 2), (55, .ireturn, 1), (56, .aload_n 0, 1), (57, .getfield 163, 3), (60, .bipush 80, 2), (62, .if_icmp .ne 6, 3), (65, .bipush (-4), 2), (67, .ireturn, 1), (68, .aload_n 0, 1), (69, .getfield 169, 3), (72, .aload_n 0, 1), (73, .getfield 163, 3), (76, .iload_n 1, 1), (77, .iastore, 1), (78, .aload_n 0, 1), (79, .getfield 172, 3), (82, .aload_n 0, 1), (83, .getfield 163, 3), (86, .iload_n 2, 1), (87, .iastore, 1), (88, .aload_n 0, 1), (89, .getfield 175, 3), (92, .aload_n 0, 1), (93, .getfield 163, 3), (96, .iload_n 3, 1), (97, .iastore, 1), (98, .aload_n 0, 1), (99, .getfield 178, 3), (102, .aload_n 0, 1), (103, .getfield 163, 3), (106, .iload 4, 2), (108, .iastore, 1), (109, .aload_n 0, 1), (110, .getfield 181, 3), (113, .aload_n 0, 1), (114, .getfield 163, 3), (117, .iload 5, 2), (119, .iastore, 1), (120, .aload_n 0, 1), (121, .dup, 1), (122, .getfield 163, 3), (125, .iconst 1, 1), (126, .iadd, 1), (127, .putfield 163, 3), (130, .aload_n 0, 1), (131, .getfield 163, 3), (134, .iconst 1, 1), (135, .isub, 1), (136, .ireturn, 1)]
theorem k_Mo_truck : sv_tk m_Mo_truck.2.1 t_Mo_truck := by decide +kernel
theorem g_Mo_truck : sv_G m_Mo_truck 5 := ⟨by decide +kernel, sv_in 1757 (by decide +kernel) rfl, sv_in 103 (by decide +kernel) rfl, ⟨by decide, by decide⟩, by decide +kernel, by decide⟩
theorem in_Mo_truck : Cond.instanceMethod m_Mo_truck.1 ∈ sv_T := sv_in 1755 (by decide +kernel) rfl
theorem se_Mo_truck : Cond.selects m_Mo_truck.1.cls m_Mo_truck.1 m_Mo_truck.1 ∈ sv_T := sv_in 1756 (by decide +kernel) rfl
def F_Mo_truck (x1 : Int32) (x2 : Int32) (x3 : Int32) (x4 : Int32) (x5 : Int32) (s : sv_S) : Option (Int32 × sv_S) :=
  (F_Mo_isRate x1 s).bind fun r1 =>
  if r1 = 0 then
    some ((-1 : Int32), s)
  else
  (F_Mo_isGood x2 s).bind fun r2 =>
  if r2 = 0 then
    some ((-1 : Int32), s)
  else
  (F_Mo_isTons x3 s).bind fun r3 =>
  if r3 = 0 then
    some ((-2 : Int32), s)
  else
  (F_Mo_in x4 (0 : Int32) (99999 : Int32) s).bind fun r4 =>
  if r4 = 0 then
    some ((-2 : Int32), s)
  else
  (F_Mo_in x5 (0 : Int32) (s.1 187 0) s).bind fun r5 =>
  if r5 = 0 then
    some ((-2 : Int32), s)
  else
  if (s.1 187 50) = (80 : Int32) then
    some ((-4 : Int32), s)
  else
  if sv_ib (s.1 187 50) 80 = true then
    ss_let (ss_setI s 222 (s.1 187 50).toNatClampNeg x1) fun s6 =>
    if sv_ib (s6.1 187 50) 80 = true then
      ss_let (ss_setI s6 223 (s6.1 187 50).toNatClampNeg x2) fun s7 =>
      if sv_ib (s7.1 187 50) 80 = true then
        ss_let (ss_setI s7 224 (s7.1 187 50).toNatClampNeg x3) fun s8 =>
        if sv_ib (s8.1 187 50) 80 = true then
          ss_let (ss_setI s8 225 (s8.1 187 50).toNatClampNeg x4) fun s9 =>
          if sv_ib (s9.1 187 50) 80 = true then
            ss_let (ss_setI s9 226 (s9.1 187 50).toNatClampNeg x5) fun s10 =>
            ss_let (ss_setI s10 187 50 ((s10.1 187 50) + (1 : Int32))) fun s11 =>
            some ((s11.1 187 50) - (1 : Int32), s11)
          else none
        else none
      else none
    else none
  else none
theorem V_Mo_truck (E : sv_E) (d : Nat) (x1 : Int32) (x2 : Int32) (x3 : Int32) (x4 : Int32) (x5 : Int32) (s : sv_S) : sv_V E m_Mo_truck (d + 2) ss_i 0 (lv_args 0 [sv_r E 187, .int x1, .int x2, .int x3, .int x4, .int x5]) [] (ss_e s) (F_Mo_truck x1 x2 x3 x4 x5 s) := by
  show sv_V E m_Mo_truck (d + 2) ss_i 0 [(0, sv_r E 187), (1, .int x1), (2, .int x2), (3, .int x3), (4, .int x4), (5, .int x5)] [] (ss_e s) _
  unfold F_Mo_truck
  refine sv_aload_n (pc := 0) 0 (sv_d k_Mo_truck 0 rfl) rfl rfl ?_
  refine sv_iload_n (pc := 1) 1 (sv_d k_Mo_truck 1 rfl) rfl rfl ?_
  refine sv_callV (pc := 2) (ψ := (ss_pi s)) (As := [.int x1]) (rest := []) (c := 187) (sv_d k_Mo_truck 2 rfl) g_Mo_isRate w1706 in_Mo_isRate se_Mo_isRate cf12 kd187 (ss_lt (by decide)) rfl (Nat.le_of_ble_eq_true rfl) (V_Mo_isRate E (d + 0) x1 s) (Nat.le_of_ble_eq_true rfl) rfl (fun r1 => ?_)
  show sv_V E _ _ _ 5 _ [.int r1] (ss_e s) _
  refine sv_if_eq (pc := 5) (tgt := 16) (sv_d k_Mo_truck 3 rfl) (by decide) ?_ ?_
  · refine sv_iconst (pc := 16) (v := (-1 : Int32)) (sv_d k_Mo_truck 8 rfl) (by decide) ?_
    exact sv_ret (pc := 17) (sv_d k_Mo_truck 9 rfl) ⟨_, rfl, rfl⟩ rfl
  · refine sv_aload_n (pc := 8) 0 (sv_d k_Mo_truck 4 rfl) rfl rfl ?_
    refine sv_iload_n (pc := 9) 2 (sv_d k_Mo_truck 5 rfl) rfl rfl ?_
    refine sv_callV (pc := 10) (ψ := (ss_pi s)) (As := [.int x2]) (rest := []) (c := 187) (sv_d k_Mo_truck 6 rfl) g_Mo_isGood w1698 in_Mo_isGood se_Mo_isGood cf12 kd187 (ss_lt (by decide)) rfl (Nat.le_of_ble_eq_true rfl) (V_Mo_isGood E (d + 0) x2 s) (Nat.le_of_ble_eq_true rfl) rfl (fun r2 => ?_)
    show sv_V E _ _ _ 13 _ [.int r2] (ss_e s) _
    refine sv_if_ne (pc := 13) (tgt := 18) (sv_d k_Mo_truck 7 rfl) (by decide) ?_ ?_
    · refine sv_aload_n (pc := 18) 0 (sv_d k_Mo_truck 10 rfl) rfl rfl ?_
      refine sv_iload_n (pc := 19) 3 (sv_d k_Mo_truck 11 rfl) rfl rfl ?_
      refine sv_callV (pc := 20) (ψ := (ss_pi s)) (As := [.int x3]) (rest := []) (c := 187) (sv_d k_Mo_truck 12 rfl) g_Mo_isTons w1730 in_Mo_isTons se_Mo_isTons cf12 kd187 (ss_lt (by decide)) rfl (Nat.le_of_ble_eq_true rfl) (V_Mo_isTons E (d + 0) x3 s) (Nat.le_of_ble_eq_true rfl) rfl (fun r3 => ?_)
      show sv_V E _ _ _ 23 _ [.int r3] (ss_e s) _
      refine sv_if_eq (pc := 23) (tgt := 53) (sv_d k_Mo_truck 13 rfl) (by decide) ?_ ?_
      · refine sv_bipush (pc := 53) (v := (-2 : Int32)) (sv_d k_Mo_truck 27 rfl) (by decide) ?_
        exact sv_ret (pc := 55) (sv_d k_Mo_truck 28 rfl) ⟨_, rfl, rfl⟩ rfl
      · refine sv_aload_n (pc := 26) 0 (sv_d k_Mo_truck 14 rfl) rfl rfl ?_
        refine sv_iload (pc := 27) 4 (sv_d k_Mo_truck 15 rfl) rfl ?_
        refine sv_iconst (pc := 29) (v := (0 : Int32)) (sv_d k_Mo_truck 16 rfl) (by decide) ?_
        refine sv_ldcw (pc := 30) (v := (99999 : Int32)) w1758 (sv_d k_Mo_truck 17 rfl) ?_
        refine sv_callV (pc := 33) (ψ := (ss_pi s)) (As := [.int x4, .int (0 : Int32), .int (99999 : Int32)]) (rest := []) (c := 187) (sv_d k_Mo_truck 18 rfl) g_Mo_in w1545 in_Mo_in se_Mo_in cf12 kd187 (ss_lt (by decide)) rfl (Nat.le_of_ble_eq_true rfl) (V_Mo_in E (d + 1) x4 (0 : Int32) (99999 : Int32) s) (Nat.le_of_ble_eq_true rfl) rfl (fun r4 => ?_)
        show sv_V E _ _ _ 36 _ [.int r4] (ss_e s) _
        refine sv_if_eq (pc := 36) (tgt := 53) (sv_d k_Mo_truck 19 rfl) (by decide) ?_ ?_
        · refine sv_bipush (pc := 53) (v := (-2 : Int32)) (sv_d k_Mo_truck 27 rfl) (by decide) ?_
          exact sv_ret (pc := 55) (sv_d k_Mo_truck 28 rfl) ⟨_, rfl, rfl⟩ rfl
        · refine sv_aload_n (pc := 39) 0 (sv_d k_Mo_truck 20 rfl) rfl rfl ?_
          refine sv_iload (pc := 40) 5 (sv_d k_Mo_truck 21 rfl) rfl ?_
          refine sv_iconst (pc := 42) (v := (0 : Int32)) (sv_d k_Mo_truck 22 rfl) (by decide) ?_
          refine sv_aload_n (pc := 43) 0 (sv_d k_Mo_truck 23 rfl) rfl rfl ?_
          refine sv_getf (pc := 44) 0 (sv_d k_Mo_truck 24 rfl) cf12 (by decide) w1302 kd187 (ss_lt (by decide)) rfl ?_
          refine sv_callV (pc := 47) (ψ := (ss_pi s)) (As := [.int x5, .int (0 : Int32), .int (s.1 187 0)]) (rest := []) (c := 187) (sv_d k_Mo_truck 25 rfl) g_Mo_in w1545 in_Mo_in se_Mo_in cf12 kd187 (ss_lt (by decide)) rfl (Nat.le_of_ble_eq_true rfl) (V_Mo_in E (d + 1) x5 (0 : Int32) (s.1 187 0) s) (Nat.le_of_ble_eq_true rfl) rfl (fun r5 => ?_)
          show sv_V E _ _ _ 50 _ [.int r5] (ss_e s) _
          refine sv_if_ne (pc := 50) (tgt := 56) (sv_d k_Mo_truck 26 rfl) (by decide) ?_ ?_
          · refine sv_aload_n (pc := 56) 0 (sv_d k_Mo_truck 29 rfl) rfl rfl ?_
            refine sv_getf (pc := 57) 50 (sv_d k_Mo_truck 30 rfl) cf12 (by decide) w1352 kd187 (ss_lt (by decide)) rfl ?_
            refine sv_bipush (pc := 60) (v := (80 : Int32)) (sv_d k_Mo_truck 31 rfl) (by decide) ?_
            refine sv_icmp_ne (pc := 62) (tgt := 68) (sv_d k_Mo_truck 32 rfl) (by decide) ?_ ?_
            · refine sv_aload_n (pc := 68) 0 (sv_d k_Mo_truck 35 rfl) rfl rfl ?_
              refine sv_getf (pc := 69) 52 (sv_d k_Mo_truck 36 rfl) cf12 (by decide) w1354 kd187 (ss_lt (by decide)) (lr_187_52 E _) ?_
              refine sv_aload_n (pc := 72) 0 (sv_d k_Mo_truck 37 rfl) rfl rfl ?_
              refine sv_getf (pc := 73) 50 (sv_d k_Mo_truck 38 rfl) cf12 (by decide) w1352 kd187 (ss_lt (by decide)) rfl ?_
              refine sv_iload_n (pc := 76) 1 (sv_d k_Mo_truck 39 rfl) rfl rfl ?_
              refine ss_iast (pc := 77) (n := 80) (sv_d k_Mo_truck 40 rfl) kd222 (by decide) (ss_lt (by decide)) rfl (ss_lets (fun s6 e_s6 => ?_))
              refine sv_aload_n (pc := 78) 0 (sv_d k_Mo_truck 41 rfl) rfl rfl ?_
              refine sv_getf (pc := 79) 53 (sv_d k_Mo_truck 42 rfl) cf12 (by decide) w1355 kd187 (ss_lt (by decide)) (lr_187_53 E _) ?_
              refine sv_aload_n (pc := 82) 0 (sv_d k_Mo_truck 43 rfl) rfl rfl ?_
              refine sv_getf (pc := 83) 50 (sv_d k_Mo_truck 44 rfl) cf12 (by decide) w1352 kd187 (ss_lt (by decide)) rfl ?_
              refine sv_iload_n (pc := 86) 2 (sv_d k_Mo_truck 45 rfl) rfl rfl ?_
              refine ss_iast (pc := 87) (n := 80) (sv_d k_Mo_truck 46 rfl) kd223 (by decide) (ss_lt (by decide)) rfl (ss_lets (fun s7 e_s7 => ?_))
              refine sv_aload_n (pc := 88) 0 (sv_d k_Mo_truck 47 rfl) rfl rfl ?_
              refine sv_getf (pc := 89) 54 (sv_d k_Mo_truck 48 rfl) cf12 (by decide) w1356 kd187 (ss_lt (by decide)) (lr_187_54 E _) ?_
              refine sv_aload_n (pc := 92) 0 (sv_d k_Mo_truck 49 rfl) rfl rfl ?_
              refine sv_getf (pc := 93) 50 (sv_d k_Mo_truck 50 rfl) cf12 (by decide) w1352 kd187 (ss_lt (by decide)) rfl ?_
              refine sv_iload_n (pc := 96) 3 (sv_d k_Mo_truck 51 rfl) rfl rfl ?_
              refine ss_iast (pc := 97) (n := 80) (sv_d k_Mo_truck 52 rfl) kd224 (by decide) (ss_lt (by decide)) rfl (ss_lets (fun s8 e_s8 => ?_))
              refine sv_aload_n (pc := 98) 0 (sv_d k_Mo_truck 53 rfl) rfl rfl ?_
              refine sv_getf (pc := 99) 55 (sv_d k_Mo_truck 54 rfl) cf12 (by decide) w1357 kd187 (ss_lt (by decide)) (lr_187_55 E _) ?_
              refine sv_aload_n (pc := 102) 0 (sv_d k_Mo_truck 55 rfl) rfl rfl ?_
              refine sv_getf (pc := 103) 50 (sv_d k_Mo_truck 56 rfl) cf12 (by decide) w1352 kd187 (ss_lt (by decide)) rfl ?_
              refine sv_iload (pc := 106) 4 (sv_d k_Mo_truck 57 rfl) rfl ?_
              refine ss_iast (pc := 108) (n := 80) (sv_d k_Mo_truck 58 rfl) kd225 (by decide) (ss_lt (by decide)) rfl (ss_lets (fun s9 e_s9 => ?_))
              refine sv_aload_n (pc := 109) 0 (sv_d k_Mo_truck 59 rfl) rfl rfl ?_
              refine sv_getf (pc := 110) 56 (sv_d k_Mo_truck 60 rfl) cf12 (by decide) w1358 kd187 (ss_lt (by decide)) (lr_187_56 E _) ?_
              refine sv_aload_n (pc := 113) 0 (sv_d k_Mo_truck 61 rfl) rfl rfl ?_
              refine sv_getf (pc := 114) 50 (sv_d k_Mo_truck 62 rfl) cf12 (by decide) w1352 kd187 (ss_lt (by decide)) rfl ?_
              refine sv_iload (pc := 117) 5 (sv_d k_Mo_truck 63 rfl) rfl ?_
              refine ss_iast (pc := 119) (n := 80) (sv_d k_Mo_truck 64 rfl) kd226 (by decide) (ss_lt (by decide)) rfl (ss_lets (fun s10 e_s10 => ?_))
              refine sv_aload_n (pc := 120) 0 (sv_d k_Mo_truck 65 rfl) rfl rfl ?_
              refine sv_dup (pc := 121) (sv_d k_Mo_truck 66 rfl) rfl ?_
              refine sv_getf (pc := 122) 50 (sv_d k_Mo_truck 67 rfl) cf12 (by decide) w1352 kd187 (ss_lt (by decide)) rfl ?_
              refine sv_iconst (pc := 125) (v := (1 : Int32)) (sv_d k_Mo_truck 68 rfl) (by decide) ?_
              refine sv_iadd (pc := 126) (sv_d k_Mo_truck 69 rfl) ?_
              refine ss_putI (pc := 127) 50 (sv_d k_Mo_truck 70 rfl) cf12 (by decide) rfl w1352 kd187 (ss_lt (by decide)) rfl rfl (fun _ => rfl) (ss_lets (fun s11 e_s11 => ?_))
              refine sv_aload_n (pc := 130) 0 (sv_d k_Mo_truck 71 rfl) rfl rfl ?_
              refine sv_getf (pc := 131) 50 (sv_d k_Mo_truck 72 rfl) cf12 (by decide) w1352 kd187 (ss_lt (by decide)) rfl ?_
              refine sv_iconst (pc := 134) (v := (1 : Int32)) (sv_d k_Mo_truck 73 rfl) (by decide) ?_
              refine sv_isub (pc := 135) (sv_d k_Mo_truck 74 rfl) ?_
              exact sv_ret (pc := 136) (sv_d k_Mo_truck 75 rfl) ⟨_, rfl, rfl⟩ rfl
            · refine sv_bipush (pc := 65) (v := (-4 : Int32)) (sv_d k_Mo_truck 33 rfl) (by decide) ?_
              exact sv_ret (pc := 67) (sv_d k_Mo_truck 34 rfl) ⟨_, rfl, rfl⟩ rfl
          · refine sv_bipush (pc := 53) (v := (-2 : Int32)) (sv_d k_Mo_truck 27 rfl) (by decide) ?_
            exact sv_ret (pc := 55) (sv_d k_Mo_truck 28 rfl) ⟨_, rfl, rfl⟩ rfl
    · refine sv_iconst (pc := 16) (v := (-1 : Int32)) (sv_d k_Mo_truck 8 rfl) (by decide) ?_
      exact sv_ret (pc := 17) (sv_d k_Mo_truck 9 rfl) ⟨_, rfl, rfl⟩ rfl
/-! Mo_isTape -/
abbrev m_Mo_isTape : sv_M := (yX12_isTape, cX12_isTape, 2, (some .boolean))
def t_Mo_isTape : List (Nat × Instr × Nat) := [(0, .aload_n 0, 1), (1, .iload_n 1, 1), (2, .iconst 0, 1), (3, .iconst 5, 1), (4, .invokevirtual 251, 3), (7, .ireturn, 1)]
theorem k_Mo_isTape : sv_tk m_Mo_isTape.2.1 t_Mo_isTape := by decide +kernel
theorem g_Mo_isTape : sv_G m_Mo_isTape 1 := ⟨by decide +kernel, sv_in 1766 (by decide +kernel) rfl, sv_in 103 (by decide +kernel) rfl, ⟨by decide, by decide⟩, by decide +kernel, by decide⟩
theorem in_Mo_isTape : Cond.instanceMethod m_Mo_isTape.1 ∈ sv_T := sv_in 1765 (by decide +kernel) rfl
theorem se_Mo_isTape : Cond.selects m_Mo_isTape.1.cls m_Mo_isTape.1 m_Mo_isTape.1 ∈ sv_T := sv_in 68 (by decide +kernel) rfl
def F_Mo_isTape (x1 : Int32) (s : sv_S) : Option (Int32) :=
  (F_Mo_in x1 (0 : Int32) (5 : Int32) s).bind fun r1 =>
  if sv_bl r1 = true then some r1 else none
theorem V_Mo_isTape (E : sv_E) (d : Nat) (x1 : Int32) (s : sv_S) : sv_V E m_Mo_isTape (d + 1) (ss_pi s) 0 (lv_args 0 [sv_r E 187, .int x1]) [] (ss_e s) (F_Mo_isTape x1 s) := by
  show sv_V E m_Mo_isTape (d + 1) (ss_pi s) 0 [(0, sv_r E 187), (1, .int x1)] [] (ss_e s) _
  unfold F_Mo_isTape
  refine sv_aload_n (pc := 0) 0 (sv_d k_Mo_isTape 0 rfl) rfl rfl ?_
  refine sv_iload_n (pc := 1) 1 (sv_d k_Mo_isTape 1 rfl) rfl rfl ?_
  refine sv_iconst (pc := 2) (v := (0 : Int32)) (sv_d k_Mo_isTape 2 rfl) (by decide) ?_
  refine sv_iconst (pc := 3) (v := (5 : Int32)) (sv_d k_Mo_isTape 3 rfl) (by decide) ?_
  refine sv_callV (pc := 4) (ψ := (ss_pi s)) (As := [.int x1, .int (0 : Int32), .int (5 : Int32)]) (rest := []) (c := 187) (sv_d k_Mo_isTape 4 rfl) g_Mo_in w1545 in_Mo_in se_Mo_in cf12 kd187 (ss_lt (by decide)) rfl (Nat.le_of_ble_eq_true rfl) (V_Mo_in E (d + 0) x1 (0 : Int32) (5 : Int32) s) (Nat.le_of_ble_eq_true rfl) rfl (fun r1 => ?_)
  show sv_V E _ _ _ 7 _ [.int r1] (ss_e s) _
  exact ss_grd (fun bb2 => sv_ret (pc := 7) (sv_d k_Mo_isTape 5 rfl) ⟨_, rfl, sv_bln bb2⟩ rfl)
/-! Mo_book -/
abbrev m_Mo_book : sv_M := (yX12_book, cX12_book, 8, (some .int))
def t_Mo_book : List (Nat × Instr × Nat) := [(0, .aload_n 0, 1), (1, .iload_n 1, 1), (2, .invokevirtual 393, 3), (5, .ifCond .ne 5, 3), (8, .iconst (-1), 1), (9, .ireturn, 1), (10, .aload_n 0, 1), (11, .iload_n 3, 1), (12, .iconst 1, 1), (13, .bipush 16, 2), (15, .invokevirtual 251, 3), (18, .ifCond .ne 6, 3), (21, .bipush (-2), 2), (23, .ireturn, 1), (24, .aload_n 0, 1), (25, .getfield 238, 3), (28, .iload_n 1, 1), (29, .iaload, 1), (30, .ifCond .lt 16, 3), (33, .aload_n 0, 1), (34, .getfield 238, 3), (37, .iload_n 1, 1), (38, .iaload, 1), (39, .iconst 2, 1), (40, .if_icmp .eq 6, 3), (43, .bipush (-12), 2), (45, .ireturn, 1), (46, .iconst 0, 1), (47, .istore 4, 2), (49, .aload_n 0, 1), (50, .iconst 0, 1), (51, .putfield 166, 3), (54, .iconst 0, 1), (55, .istore 5, 2), (57, .iload 5, 2), (59, .iload_n 3, 1), (60, .if_icmp .ge 148, 3), (63, .aload_n 0, 1), (64, .getfield 166, 3), (67, .ifCond .ne 141, 3), (70, .aload_n 0, 1), (71, .getfield 238, 3), (74, .iload_n 1, 1), (75, .iaload, 1), (76, .ifCond .lt 24, 3), (79, .iload_n 2, 1), (80, .ifCond .lt 20, 3), (83, .iload_n 2, 1), (84, .aload_n 0, 1), (85, .getfield 241, 3), (88, .iload_n 1, 1), (89, .iaload, 1), (90, .iconst 5, 1), (91, .iload 5, 2), (93, .imul, 1), (94, .isub, 1), (95, .iconst 5, 1), (96, .isub, 1), (97, .if_icmp .le 11, 3), (100, .aload_n 0, 1), (101, .iconst 1, 1), (102, .putfield 166, 3), (105, .goto 97, 3), (108, .bipush 80, 2), (110, .iload_n 1, 1), (111, .imul, 1), (112, .iload_n 2, 1), (113, .iadd, 1), (114, .iconst 5, 1), (115, .iload 5, 2), (117, .imul, 1), (118, .iadd, 1), (119, .istore 6, 2), (121, .aload_n 0, 1), (122, .aload_n 0, 1), (123, .getfield 244, 3), (126, .iload 6, 2), (128, .laload, 1), (129, .l2i, 1), (130, .aload_n 0, 1), (131, .getfield 244, 3), (134, .iload 6, 2), (136, .iconst 1, 1), (137, .iadd, 1), (138, .laload, 1), (139, .l2i, 1), (140, .aload_n 0, 1), (141, .getfield 244, 3), (144, .iload 6, 2), (146, .iconst 2, 1), (147, .iadd, 1), (148, .laload, 1), (149, .l2i, 1), (150, .aload_n 0, 1), (151, .getfield 244, 3), (154, .iload 6, 2), (156, .iconst 3, 1), (157, .iadd, 1), (158, .laload, 1), (159, .l2i, 1), (160, .aload_n 0, 1), (161, .getfield 244, 3), (164, .iload 6, 2), (166, .iconst 4, 1), (167, .iadd, 1), (168, .laload, 1), (169, .l2i, 1), (170, .invokevirtual 396, 3), (173, .istore 7, 2), (175, .iload 7, 2), (177, .ifCond .lt 9, 3), (180, .iinc 4 1, 3), (183, .goto 19, 3), (186, .aload_n 0, 1), (187, .iload 7, 2), (189, .bipush (-4), 2), (191, .if_icmp .ne 7, 3), (194, .iconst 3, 1), (195, .goto 4, 3), (198, .iconst 2, 1), (199, .putfield 166, 3), (202, .iinc 5 1, 3), (205, .goto (-148), 3), (208, .iload 4, 2), (210, .ireturn, 1)]
theorem k_Mo_book : sv_tk m_Mo_book.2.1 t_Mo_book := by decide +kernel
theorem g_Mo_book : sv_G m_Mo_book 3 := ⟨by decide +kernel, sv_in 1762 (by decide +kernel) rfl, sv_in 103 (by decide +kernel) rfl, ⟨by decide, by decide⟩, by decide +kernel, by decide⟩
theorem in_Mo_book : Cond.instanceMethod m_Mo_book.1 ∈ sv_T := sv_in 1760 (by decide +kernel) rfl
theorem se_Mo_book : Cond.selects m_Mo_book.1.cls m_Mo_book.1 m_Mo_book.1 ∈ sv_T := sv_in 1761 (by decide +kernel) rfl
def F_Mo_book_b202 (kc57 : Int32 → Int32 → Int32 → Int32 → Int32 → sv_S → Option (Int32 × sv_S)) (x1 : Int32) (x2 : Int32) (x3 : Int32) (x4 : Int32) (x5 : Int32) (s : sv_S) : Option (Int32 × sv_S) :=
  ss_let (x5 + (1 : Int32)) fun v5 =>
  kc57 x1 x2 x3 x4 v5 s
theorem V_Mo_book_b202 (E : sv_E) (d : Nat) (kc57 : Int32 → Int32 → Int32 → Int32 → Int32 → sv_S → Option (Int32 × sv_S)) (hc57 : ∀ (x1 : Int32) (x2 : Int32) (x3 : Int32) (x4 : Int32) (x5 : Int32) (s : sv_S), sv_V E m_Mo_book (d + 3) ss_i 57 [(0, sv_r E 187), (1, .int x1), (2, .int x2), (3, .int x3), (4, .int x4), (5, .int x5)] [] (ss_e s) (kc57 x1 x2 x3 x4 x5 s)) (x1 : Int32) (x2 : Int32) (x3 : Int32) (x4 : Int32) (x5 : Int32) (s : sv_S) : sv_V E m_Mo_book (d + 3) ss_i 202 [(0, sv_r E 187), (1, .int x1), (2, .int x2), (3, .int x3), (4, .int x4), (5, .int x5)] [] (ss_e s) (F_Mo_book_b202 kc57 x1 x2 x3 x4 x5 s) := by
  unfold F_Mo_book_b202
  refine ss_letr (fun v5 e_v5 => ?_)
  refine sv_iinc (pc := 202) (v := v5) (lv' := [(5, .int v5), (0, sv_r E 187), (1, .int x1), (2, .int x2), (3, .int x3), (4, .int x4)]) (sv_d k_Mo_book 121 rfl) (n := 5) rfl (by rw [e_v5]; rfl) (by decide) rfl ?_
  refine sv_goto (pc := 205) (tgt := 57) (sv_d k_Mo_book 122 rfl) (by decide) ?_
  exact sv_loc [1, 2, 3, 4, 5, 0] rfl (hc57 x1 x2 x3 x4 v5 s)
def F_Mo_book_b100 (kc57 : Int32 → Int32 → Int32 → Int32 → Int32 → sv_S → Option (Int32 × sv_S)) (x1 : Int32) (x2 : Int32) (x3 : Int32) (x4 : Int32) (x5 : Int32) (s : sv_S) : Option (Int32 × sv_S) :=
  ss_let (ss_setI s 187 51 (1 : Int32)) fun s4 =>
  F_Mo_book_b202 kc57 x1 x2 x3 x4 x5 s4
theorem V_Mo_book_b100 (E : sv_E) (d : Nat) (kc57 : Int32 → Int32 → Int32 → Int32 → Int32 → sv_S → Option (Int32 × sv_S)) (hc57 : ∀ (x1 : Int32) (x2 : Int32) (x3 : Int32) (x4 : Int32) (x5 : Int32) (s : sv_S), sv_V E m_Mo_book (d + 3) ss_i 57 [(0, sv_r E 187), (1, .int x1), (2, .int x2), (3, .int x3), (4, .int x4), (5, .int x5)] [] (ss_e s) (kc57 x1 x2 x3 x4 x5 s)) (x1 : Int32) (x2 : Int32) (x3 : Int32) (x4 : Int32) (x5 : Int32) (s : sv_S) : sv_V E m_Mo_book (d + 3) ss_i 100 [(0, sv_r E 187), (1, .int x1), (2, .int x2), (3, .int x3), (4, .int x4), (5, .int x5)] [] (ss_e s) (F_Mo_book_b100 kc57 x1 x2 x3 x4 x5 s) := by
  unfold F_Mo_book_b100
  refine sv_aload_n (pc := 100) 0 (sv_d k_Mo_book 59 rfl) rfl rfl ?_
  refine sv_iconst (pc := 101) (v := (1 : Int32)) (sv_d k_Mo_book 60 rfl) (by decide) ?_
  refine ss_putI (pc := 102) 51 (sv_d k_Mo_book 61 rfl) cf12 (by decide) rfl w1353 kd187 (ss_lt (by decide)) rfl rfl (fun _ => rfl) (ss_lets (fun s4 e_s4 => ?_))
  refine sv_goto (pc := 105) (tgt := 202) (sv_d k_Mo_book 62 rfl) (by decide) ?_
  exact sv_loc [0, 1, 2, 3, 4, 5] rfl (V_Mo_book_b202 E d kc57 hc57 x1 x2 x3 x4 x5 s4)
def F_Mo_book_b199 (kc57 : Int32 → Int32 → Int32 → Int32 → Int32 → sv_S → Option (Int32 × sv_S)) (x1 : Int32) (x2 : Int32) (x3 : Int32) (x4 : Int32) (x5 : Int32) (t1 : Int32) (s : sv_S) : Option (Int32 × sv_S) :=
  ss_let (ss_setI s 187 51 t1) fun s8 =>
  F_Mo_book_b202 kc57 x1 x2 x3 x4 x5 s8
theorem V_Mo_book_b199 (E : sv_E) (d : Nat) (kc57 : Int32 → Int32 → Int32 → Int32 → Int32 → sv_S → Option (Int32 × sv_S)) (hc57 : ∀ (x1 : Int32) (x2 : Int32) (x3 : Int32) (x4 : Int32) (x5 : Int32) (s : sv_S), sv_V E m_Mo_book (d + 3) ss_i 57 [(0, sv_r E 187), (1, .int x1), (2, .int x2), (3, .int x3), (4, .int x4), (5, .int x5)] [] (ss_e s) (kc57 x1 x2 x3 x4 x5 s)) (x1 : Int32) (x2 : Int32) (x3 : Int32) (x4 : Int32) (x5 : Int32) (t1 : Int32) (s : sv_S) : sv_V E m_Mo_book (d + 3) ss_i 199 [(0, sv_r E 187), (1, .int x1), (2, .int x2), (3, .int x3), (4, .int x4), (5, .int x5)] [.int t1, sv_r E 187] (ss_e s) (F_Mo_book_b199 kc57 x1 x2 x3 x4 x5 t1 s) := by
  unfold F_Mo_book_b199
  refine ss_putI (pc := 199) 51 (sv_d k_Mo_book 120 rfl) cf12 (by decide) rfl w1353 kd187 (ss_lt (by decide)) rfl rfl (fun _ => rfl) (ss_lets (fun s8 e_s8 => ?_))
  exact sv_loc [0, 1, 2, 3, 4, 5] rfl (V_Mo_book_b202 E d kc57 hc57 x1 x2 x3 x4 x5 s8)
def F_Mo_book_b57 : Nat → Int32 → Int32 → Int32 → Int32 → Int32 → sv_S → Option (Int32 × sv_S)
  | 0 => fun _ _ _ _ _ _ => none
  | n + 1 => fun x1 x2 x3 x4 x5 s =>
    if x3 ≤ x5 then
      some (x4, s)
    else
    if (s.1 187 51) = 0 then
      if sv_ib x1 6 = true then
        if (s.1 239 x1.toNatClampNeg) < 0 then
          F_Mo_book_b100 (F_Mo_book_b57  n) x1 x2 x3 x4 x5 s
        else
        if x2 < 0 then
          F_Mo_book_b100 (F_Mo_book_b57  n) x1 x2 x3 x4 x5 s
        else
        if sv_ib x1 6 = true then
          if x2 ≤ (((s.1 240 x1.toNatClampNeg) - ((5 : Int32) * x5)) - (5 : Int32)) then
            ss_let ((((80 : Int32) * x1) + x2) + ((5 : Int32) * x5)) fun v6 =>
            if sv_ib v6 480 = true then
              if sv_ib (v6 + (1 : Int32)) 480 = true then
                if sv_ib (v6 + (2 : Int32)) 480 = true then
                  if sv_ib (v6 + (3 : Int32)) 480 = true then
                    if sv_ib (v6 + (4 : Int32)) 480 = true then
                      (F_Mo_truck ((s.2.1 241 v6.toNatClampNeg).toInt32) ((s.2.1 241 (v6 + (1 : Int32)).toNatClampNeg).toInt32) ((s.2.1 241 (v6 + (2 : Int32)).toNatClampNeg).toInt32) ((s.2.1 241 (v6 + (3 : Int32)).toNatClampNeg).toInt32) ((s.2.1 241 (v6 + (4 : Int32)).toNatClampNeg).toInt32) s).bind fun r7 =>
                      if r7.1 < 0 then
                        if r7.1 = (-4 : Int32) then
                          F_Mo_book_b199 (F_Mo_book_b57  n) x1 x2 x3 x4 x5 (3 : Int32) r7.2
                        else
                        F_Mo_book_b199 (F_Mo_book_b57  n) x1 x2 x3 x4 x5 (2 : Int32) r7.2
                      else
                      ss_let (x4 + (1 : Int32)) fun v9 =>
                      F_Mo_book_b202 (F_Mo_book_b57  n) x1 x2 x3 v9 x5 r7.2
                    else none
                  else none
                else none
              else none
            else none
          else
          F_Mo_book_b100 (F_Mo_book_b57  n) x1 x2 x3 x4 x5 s
        else none
      else none
    else
    some (x4, s)
theorem V_Mo_book_b57 (E : sv_E) (d : Nat) : ∀ (n : Nat) (x1 : Int32) (x2 : Int32) (x3 : Int32) (x4 : Int32) (x5 : Int32) (s : sv_S), sv_V E m_Mo_book (d + 3) ss_i 57 [(0, sv_r E 187), (1, .int x1), (2, .int x2), (3, .int x3), (4, .int x4), (5, .int x5)] [] (ss_e s) (F_Mo_book_b57 n x1 x2 x3 x4 x5 s) := by
  intro n
  induction n with
  | zero => intro x1 x2 x3 x4 x5 s; exact sv_none
  | succ n ih =>
    intro x1 x2 x3 x4 x5 s
    unfold F_Mo_book_b57
    refine sv_iload (pc := 57) 5 (sv_d k_Mo_book 34 rfl) rfl ?_
    refine sv_iload_n (pc := 59) 3 (sv_d k_Mo_book 35 rfl) rfl rfl ?_
    refine sv_icmp_ge (pc := 60) (tgt := 208) (sv_d k_Mo_book 36 rfl) (by decide) ?_ ?_
    · refine sv_iload (pc := 208) 4 (sv_d k_Mo_book 123 rfl) rfl ?_
      exact sv_ret (pc := 210) (sv_d k_Mo_book 124 rfl) ⟨_, rfl, rfl⟩ rfl
    · refine sv_aload_n (pc := 63) 0 (sv_d k_Mo_book 37 rfl) rfl rfl ?_
      refine sv_getf (pc := 64) 51 (sv_d k_Mo_book 38 rfl) cf12 (by decide) w1353 kd187 (ss_lt (by decide)) rfl ?_
      refine sv_if_ne (pc := 67) (tgt := 208) (sv_d k_Mo_book 39 rfl) (by decide) ?_ ?_
      · refine sv_iload (pc := 208) 4 (sv_d k_Mo_book 123 rfl) rfl ?_
        exact sv_ret (pc := 210) (sv_d k_Mo_book 124 rfl) ⟨_, rfl, rfl⟩ rfl
      · refine sv_aload_n (pc := 70) 0 (sv_d k_Mo_book 40 rfl) rfl rfl ?_
        refine sv_getf (pc := 71) 75 (sv_d k_Mo_book 41 rfl) cf12 (by decide) w1377 kd187 (ss_lt (by decide)) (lr_187_75 E _) ?_
        refine sv_iload_n (pc := 74) 1 (sv_d k_Mo_book 42 rfl) rfl rfl ?_
        refine ss_iald (pc := 75) (n := 6) (sv_d k_Mo_book 43 rfl) kd239 (ss_lt (by decide)) rfl ?_
        refine sv_if_lt (pc := 76) (tgt := 100) (sv_d k_Mo_book 44 rfl) (by decide) ?_ ?_
        · exact sv_loc [0, 1, 2, 3, 4, 5] rfl (V_Mo_book_b100 E d (F_Mo_book_b57  n) ih x1 x2 x3 x4 x5 s)
        · refine sv_iload_n (pc := 79) 2 (sv_d k_Mo_book 45 rfl) rfl rfl ?_
          refine sv_if_lt (pc := 80) (tgt := 100) (sv_d k_Mo_book 46 rfl) (by decide) ?_ ?_
          · exact sv_loc [0, 1, 2, 3, 4, 5] rfl (V_Mo_book_b100 E d (F_Mo_book_b57  n) ih x1 x2 x3 x4 x5 s)
          · refine sv_iload_n (pc := 83) 2 (sv_d k_Mo_book 47 rfl) rfl rfl ?_
            refine sv_aload_n (pc := 84) 0 (sv_d k_Mo_book 48 rfl) rfl rfl ?_
            refine sv_getf (pc := 85) 76 (sv_d k_Mo_book 49 rfl) cf12 (by decide) w1378 kd187 (ss_lt (by decide)) (lr_187_76 E _) ?_
            refine sv_iload_n (pc := 88) 1 (sv_d k_Mo_book 50 rfl) rfl rfl ?_
            refine ss_iald (pc := 89) (n := 6) (sv_d k_Mo_book 51 rfl) kd240 (ss_lt (by decide)) rfl ?_
            refine sv_iconst (pc := 90) (v := (5 : Int32)) (sv_d k_Mo_book 52 rfl) (by decide) ?_
            refine sv_iload (pc := 91) 5 (sv_d k_Mo_book 53 rfl) rfl ?_
            refine sv_imul (pc := 93) (sv_d k_Mo_book 54 rfl) ?_
            refine sv_isub (pc := 94) (sv_d k_Mo_book 55 rfl) ?_
            refine sv_iconst (pc := 95) (v := (5 : Int32)) (sv_d k_Mo_book 56 rfl) (by decide) ?_
            refine sv_isub (pc := 96) (sv_d k_Mo_book 57 rfl) ?_
            refine sv_icmp_le (pc := 97) (tgt := 108) (sv_d k_Mo_book 58 rfl) (by decide) ?_ ?_
            · refine sv_bipush (pc := 108) (v := (80 : Int32)) (sv_d k_Mo_book 63 rfl) (by decide) ?_
              refine sv_iload_n (pc := 110) 1 (sv_d k_Mo_book 64 rfl) rfl rfl ?_
              refine sv_imul (pc := 111) (sv_d k_Mo_book 65 rfl) ?_
              refine sv_iload_n (pc := 112) 2 (sv_d k_Mo_book 66 rfl) rfl rfl ?_
              refine sv_iadd (pc := 113) (sv_d k_Mo_book 67 rfl) ?_
              refine sv_iconst (pc := 114) (v := (5 : Int32)) (sv_d k_Mo_book 68 rfl) (by decide) ?_
              refine sv_iload (pc := 115) 5 (sv_d k_Mo_book 69 rfl) rfl ?_
              refine sv_imul (pc := 117) (sv_d k_Mo_book 70 rfl) ?_
              refine sv_iadd (pc := 118) (sv_d k_Mo_book 71 rfl) ?_
              refine ss_top (fun v6 e_v6 => ?_)
              refine sv_istore (pc := 119) (lv' := [(6, .int v6), (0, sv_r E 187), (1, .int x1), (2, .int x2), (3, .int x3), (4, .int x4), (5, .int x5)]) (sv_d k_Mo_book 72 rfl) (by decide) rfl ?_
              refine sv_aload_n (pc := 121) 1 (sv_d k_Mo_book 73 rfl) rfl rfl ?_
              refine sv_aload_n (pc := 122) 1 (sv_d k_Mo_book 74 rfl) rfl rfl ?_
              refine sv_getf (pc := 123) 77 (sv_d k_Mo_book 75 rfl) cf12 (by decide) w1379 kd187 (ss_lt (by decide)) (lr_187_77 E _) ?_
              refine sv_iload (pc := 126) 0 (sv_d k_Mo_book 76 rfl) rfl ?_
              refine ss_lald (pc := 128) (n := 480) (sv_d k_Mo_book 77 rfl) kd241 (ss_lt (by decide)) rfl ?_
              refine sv_l2i (pc := 129) (sv_d k_Mo_book 78 rfl) ?_
              refine sv_aload_n (pc := 130) 1 (sv_d k_Mo_book 79 rfl) rfl rfl ?_
              refine sv_getf (pc := 131) 77 (sv_d k_Mo_book 80 rfl) cf12 (by decide) w1379 kd187 (ss_lt (by decide)) (lr_187_77 E _) ?_
              refine sv_iload (pc := 134) 0 (sv_d k_Mo_book 81 rfl) rfl ?_
              refine sv_iconst (pc := 136) (v := (1 : Int32)) (sv_d k_Mo_book 82 rfl) (by decide) ?_
              refine sv_iadd (pc := 137) (sv_d k_Mo_book 83 rfl) ?_
              refine ss_lald (pc := 138) (n := 480) (sv_d k_Mo_book 84 rfl) kd241 (ss_lt (by decide)) rfl ?_
              refine sv_l2i (pc := 139) (sv_d k_Mo_book 85 rfl) ?_
              refine sv_aload_n (pc := 140) 1 (sv_d k_Mo_book 86 rfl) rfl rfl ?_
              refine sv_getf (pc := 141) 77 (sv_d k_Mo_book 87 rfl) cf12 (by decide) w1379 kd187 (ss_lt (by decide)) (lr_187_77 E _) ?_
              refine sv_iload (pc := 144) 0 (sv_d k_Mo_book 88 rfl) rfl ?_
              refine sv_iconst (pc := 146) (v := (2 : Int32)) (sv_d k_Mo_book 89 rfl) (by decide) ?_
              refine sv_iadd (pc := 147) (sv_d k_Mo_book 90 rfl) ?_
              refine ss_lald (pc := 148) (n := 480) (sv_d k_Mo_book 91 rfl) kd241 (ss_lt (by decide)) rfl ?_
              refine sv_l2i (pc := 149) (sv_d k_Mo_book 92 rfl) ?_
              refine sv_aload_n (pc := 150) 1 (sv_d k_Mo_book 93 rfl) rfl rfl ?_
              refine sv_getf (pc := 151) 77 (sv_d k_Mo_book 94 rfl) cf12 (by decide) w1379 kd187 (ss_lt (by decide)) (lr_187_77 E _) ?_
              refine sv_iload (pc := 154) 0 (sv_d k_Mo_book 95 rfl) rfl ?_
              refine sv_iconst (pc := 156) (v := (3 : Int32)) (sv_d k_Mo_book 96 rfl) (by decide) ?_
              refine sv_iadd (pc := 157) (sv_d k_Mo_book 97 rfl) ?_
              refine ss_lald (pc := 158) (n := 480) (sv_d k_Mo_book 98 rfl) kd241 (ss_lt (by decide)) rfl ?_
              refine sv_l2i (pc := 159) (sv_d k_Mo_book 99 rfl) ?_
              refine sv_aload_n (pc := 160) 1 (sv_d k_Mo_book 100 rfl) rfl rfl ?_
              refine sv_getf (pc := 161) 77 (sv_d k_Mo_book 101 rfl) cf12 (by decide) w1379 kd187 (ss_lt (by decide)) (lr_187_77 E _) ?_
              refine sv_iload (pc := 164) 0 (sv_d k_Mo_book 102 rfl) rfl ?_
              refine sv_iconst (pc := 166) (v := (4 : Int32)) (sv_d k_Mo_book 103 rfl) (by decide) ?_
              refine sv_iadd (pc := 167) (sv_d k_Mo_book 104 rfl) ?_
              refine ss_lald (pc := 168) (n := 480) (sv_d k_Mo_book 105 rfl) kd241 (ss_lt (by decide)) rfl ?_
              refine sv_l2i (pc := 169) (sv_d k_Mo_book 106 rfl) ?_
              refine sv_callV (pc := 170) (ψ := ss_i) (As := [.int ((s.2.1 241 v6.toNatClampNeg).toInt32), .int ((s.2.1 241 (v6 + (1 : Int32)).toNatClampNeg).toInt32), .int ((s.2.1 241 (v6 + (2 : Int32)).toNatClampNeg).toInt32), .int ((s.2.1 241 (v6 + (3 : Int32)).toNatClampNeg).toInt32), .int ((s.2.1 241 (v6 + (4 : Int32)).toNatClampNeg).toInt32)]) (rest := []) (c := 187) (sv_d k_Mo_book 107 rfl) g_Mo_truck w1767 in_Mo_truck se_Mo_truck cf12 kd187 (ss_lt (by decide)) rfl (Nat.le_of_ble_eq_true rfl) (V_Mo_truck E (d + 0) ((s.2.1 241 v6.toNatClampNeg).toInt32) ((s.2.1 241 (v6 + (1 : Int32)).toNatClampNeg).toInt32) ((s.2.1 241 (v6 + (2 : Int32)).toNatClampNeg).toInt32) ((s.2.1 241 (v6 + (3 : Int32)).toNatClampNeg).toInt32) ((s.2.1 241 (v6 + (4 : Int32)).toNatClampNeg).toInt32) s) (Nat.le_of_ble_eq_true rfl) rfl (fun r7 => ?_)
              show sv_V E _ _ _ 173 _ [.int r7.1] (ss_e r7.2) _
              refine sv_istore (pc := 173) (lv' := [(7, .int r7.1), (6, .int v6), (0, sv_r E 187), (1, .int x1), (2, .int x2), (3, .int x3), (4, .int x4), (5, .int x5)]) (sv_d k_Mo_book 108 rfl) (by decide) rfl ?_
              refine sv_iload (pc := 175) 0 (sv_d k_Mo_book 109 rfl) rfl ?_
              refine sv_if_lt (pc := 177) (tgt := 186) (sv_d k_Mo_book 110 rfl) (by decide) ?_ ?_
              · refine sv_aload_n (pc := 186) 2 (sv_d k_Mo_book 113 rfl) rfl rfl ?_
                refine sv_iload (pc := 187) 0 (sv_d k_Mo_book 114 rfl) rfl ?_
                refine sv_bipush (pc := 189) (v := (-4 : Int32)) (sv_d k_Mo_book 115 rfl) (by decide) ?_
                refine sv_icmp_ne (pc := 191) (tgt := 198) (sv_d k_Mo_book 116 rfl) (by decide) ?_ ?_
                · refine sv_iconst (pc := 198) (v := (2 : Int32)) (sv_d k_Mo_book 119 rfl) (by decide) ?_
                  exact sv_loc [2, 3, 4, 5, 6, 7] rfl (V_Mo_book_b199 E d (F_Mo_book_b57  n) ih x1 x2 x3 x4 x5 (2 : Int32) r7.2)
                · refine sv_iconst (pc := 194) (v := (3 : Int32)) (sv_d k_Mo_book 117 rfl) (by decide) ?_
                  refine sv_goto (pc := 195) (tgt := 199) (sv_d k_Mo_book 118 rfl) (by decide) ?_
                  exact sv_loc [2, 3, 4, 5, 6, 7] rfl (V_Mo_book_b199 E d (F_Mo_book_b57  n) ih x1 x2 x3 x4 x5 (3 : Int32) r7.2)
              · refine ss_letr (fun v9 e_v9 => ?_)
                refine sv_iinc (pc := 180) (v := v9) (lv' := [(4, .int v9), (7, .int r7.1), (6, .int v6), (0, sv_r E 187), (1, .int x1), (2, .int x2), (3, .int x3), (5, .int x5)]) (sv_d k_Mo_book 111 rfl) (n := 6) rfl (by rw [e_v9]; rfl) (by decide) rfl ?_
                refine sv_goto (pc := 183) (tgt := 202) (sv_d k_Mo_book 112 rfl) (by decide) ?_
                exact sv_loc [3, 4, 5, 6, 0, 7] rfl (V_Mo_book_b202 E d (F_Mo_book_b57  n) ih x1 x2 x3 v9 x5 r7.2)
            · exact sv_loc [0, 1, 2, 3, 4, 5] rfl (V_Mo_book_b100 E d (F_Mo_book_b57  n) ih x1 x2 x3 x4 x5 s)
def F_Mo_book_b46 (x1 : Int32) (x2 : Int32) (x3 : Int32) (s : sv_S) : Option (Int32 × sv_S) :=
  ss_let (ss_setI s 187 51 (0 : Int32)) fun s3 =>
  F_Mo_book_b57 ss_F x1 x2 x3 (0 : Int32) (0 : Int32) s3
theorem V_Mo_book_b46 (E : sv_E) (d : Nat) (x1 : Int32) (x2 : Int32) (x3 : Int32) (s : sv_S) : sv_V E m_Mo_book (d + 3) ss_i 46 [(0, sv_r E 187), (1, .int x1), (2, .int x2), (3, .int x3)] [] (ss_e s) (F_Mo_book_b46 x1 x2 x3 s) := by
  unfold F_Mo_book_b46
  refine sv_iconst (pc := 46) (v := (0 : Int32)) (sv_d k_Mo_book 27 rfl) (by decide) ?_
  refine sv_istore (pc := 47) (lv' := [(4, .int (0 : Int32)), (0, sv_r E 187), (1, .int x1), (2, .int x2), (3, .int x3)]) (sv_d k_Mo_book 28 rfl) (by decide) rfl ?_
  refine sv_aload_n (pc := 49) 1 (sv_d k_Mo_book 29 rfl) rfl rfl ?_
  refine sv_iconst (pc := 50) (v := (0 : Int32)) (sv_d k_Mo_book 30 rfl) (by decide) ?_
  refine ss_putI (pc := 51) 51 (sv_d k_Mo_book 31 rfl) cf12 (by decide) rfl w1353 kd187 (ss_lt (by decide)) rfl rfl (fun _ => rfl) (ss_lets (fun s3 e_s3 => ?_))
  refine sv_iconst (pc := 54) (v := (0 : Int32)) (sv_d k_Mo_book 32 rfl) (by decide) ?_
  refine sv_istore (pc := 55) (lv' := [(5, .int (0 : Int32)), (4, .int (0 : Int32)), (0, sv_r E 187), (1, .int x1), (2, .int x2), (3, .int x3)]) (sv_d k_Mo_book 33 rfl) (by decide) rfl ?_
  exact sv_loc [2, 3, 4, 5, 1, 0] rfl (V_Mo_book_b57 E d ss_F x1 x2 x3 (0 : Int32) (0 : Int32) s3)
def F_Mo_book (x1 : Int32) (x2 : Int32) (x3 : Int32) (s : sv_S) : Option (Int32 × sv_S) :=
  (F_Mo_isTape x1 s).bind fun r1 =>
  if r1 = 0 then
    some ((-1 : Int32), s)
  else
  (F_Mo_in x3 (1 : Int32) (16 : Int32) s).bind fun r2 =>
  if r2 = 0 then
    some ((-2 : Int32), s)
  else
  if sv_ib x1 6 = true then
    if (s.1 239 x1.toNatClampNeg) < 0 then
      F_Mo_book_b46 x1 x2 x3 s
    else
    if sv_ib x1 6 = true then
      if (s.1 239 x1.toNatClampNeg) = (2 : Int32) then
        F_Mo_book_b46 x1 x2 x3 s
      else
      some ((-12 : Int32), s)
    else none
  else none
theorem V_Mo_book (E : sv_E) (d : Nat) (x1 : Int32) (x2 : Int32) (x3 : Int32) (s : sv_S) : sv_V E m_Mo_book (d + 3) ss_i 0 (lv_args 0 [sv_r E 187, .int x1, .int x2, .int x3]) [] (ss_e s) (F_Mo_book x1 x2 x3 s) := by
  show sv_V E m_Mo_book (d + 3) ss_i 0 [(0, sv_r E 187), (1, .int x1), (2, .int x2), (3, .int x3)] [] (ss_e s) _
  unfold F_Mo_book
  refine sv_aload_n (pc := 0) 0 (sv_d k_Mo_book 0 rfl) rfl rfl ?_
  refine sv_iload_n (pc := 1) 1 (sv_d k_Mo_book 1 rfl) rfl rfl ?_
  refine sv_callV (pc := 2) (ψ := (ss_pi s)) (As := [.int x1]) (rest := []) (c := 187) (sv_d k_Mo_book 2 rfl) g_Mo_isTape w1763 in_Mo_isTape se_Mo_isTape cf12 kd187 (ss_lt (by decide)) rfl (Nat.le_of_ble_eq_true rfl) (V_Mo_isTape E (d + 1) x1 s) (Nat.le_of_ble_eq_true rfl) rfl (fun r1 => ?_)
  show sv_V E _ _ _ 5 _ [.int r1] (ss_e s) _
  refine sv_if_ne (pc := 5) (tgt := 10) (sv_d k_Mo_book 3 rfl) (by decide) ?_ ?_
  · refine sv_aload_n (pc := 10) 0 (sv_d k_Mo_book 6 rfl) rfl rfl ?_
    refine sv_iload_n (pc := 11) 3 (sv_d k_Mo_book 7 rfl) rfl rfl ?_
    refine sv_iconst (pc := 12) (v := (1 : Int32)) (sv_d k_Mo_book 8 rfl) (by decide) ?_
    refine sv_bipush (pc := 13) (v := (16 : Int32)) (sv_d k_Mo_book 9 rfl) (by decide) ?_
    refine sv_callV (pc := 15) (ψ := (ss_pi s)) (As := [.int x3, .int (1 : Int32), .int (16 : Int32)]) (rest := []) (c := 187) (sv_d k_Mo_book 10 rfl) g_Mo_in w1545 in_Mo_in se_Mo_in cf12 kd187 (ss_lt (by decide)) rfl (Nat.le_of_ble_eq_true rfl) (V_Mo_in E (d + 2) x3 (1 : Int32) (16 : Int32) s) (Nat.le_of_ble_eq_true rfl) rfl (fun r2 => ?_)
    show sv_V E _ _ _ 18 _ [.int r2] (ss_e s) _
    refine sv_if_ne (pc := 18) (tgt := 24) (sv_d k_Mo_book 11 rfl) (by decide) ?_ ?_
    · refine sv_aload_n (pc := 24) 0 (sv_d k_Mo_book 14 rfl) rfl rfl ?_
      refine sv_getf (pc := 25) 75 (sv_d k_Mo_book 15 rfl) cf12 (by decide) w1377 kd187 (ss_lt (by decide)) (lr_187_75 E _) ?_
      refine sv_iload_n (pc := 28) 1 (sv_d k_Mo_book 16 rfl) rfl rfl ?_
      refine ss_iald (pc := 29) (n := 6) (sv_d k_Mo_book 17 rfl) kd239 (ss_lt (by decide)) rfl ?_
      refine sv_if_lt (pc := 30) (tgt := 46) (sv_d k_Mo_book 18 rfl) (by decide) ?_ ?_
      · exact sv_loc [0, 1, 2, 3] rfl (V_Mo_book_b46 E d x1 x2 x3 s)
      · refine sv_aload_n (pc := 33) 0 (sv_d k_Mo_book 19 rfl) rfl rfl ?_
        refine sv_getf (pc := 34) 75 (sv_d k_Mo_book 20 rfl) cf12 (by decide) w1377 kd187 (ss_lt (by decide)) (lr_187_75 E _) ?_
        refine sv_iload_n (pc := 37) 1 (sv_d k_Mo_book 21 rfl) rfl rfl ?_
        refine ss_iald (pc := 38) (n := 6) (sv_d k_Mo_book 22 rfl) kd239 (ss_lt (by decide)) rfl ?_
        refine sv_iconst (pc := 39) (v := (2 : Int32)) (sv_d k_Mo_book 23 rfl) (by decide) ?_
        refine sv_icmp_eq (pc := 40) (tgt := 46) (sv_d k_Mo_book 24 rfl) (by decide) ?_ ?_
        · exact sv_loc [0, 1, 2, 3] rfl (V_Mo_book_b46 E d x1 x2 x3 s)
        · refine sv_bipush (pc := 43) (v := (-12 : Int32)) (sv_d k_Mo_book 25 rfl) (by decide) ?_
          exact sv_ret (pc := 45) (sv_d k_Mo_book 26 rfl) ⟨_, rfl, rfl⟩ rfl
    · refine sv_bipush (pc := 21) (v := (-2 : Int32)) (sv_d k_Mo_book 12 rfl) (by decide) ?_
      exact sv_ret (pc := 23) (sv_d k_Mo_book 13 rfl) ⟨_, rfl, rfl⟩ rfl
  · refine sv_iconst (pc := 8) (v := (-1 : Int32)) (sv_d k_Mo_book 4 rfl) (by decide) ?_
    exact sv_ret (pc := 9) (sv_d k_Mo_book 5 rfl) ⟨_, rfl, rfl⟩ rfl
/-! Mo_ended -/
abbrev m_Mo_ended : sv_M := (yX12_ended, cX12_ended, 1, (some .int))
def t_Mo_ended : List (Nat × Instr × Nat) := [(0, .aload_n 0, 1), (1, .getfield 166, 3), (4, .ifCond .ge 8, 3), (7, .bipush (-3), 2), (9, .goto 7, 3), (12, .aload_n 0, 1), (13, .getfield 166, 3), (16, .ireturn, 1)]
theorem k_Mo_ended : sv_tk m_Mo_ended.2.1 t_Mo_ended := by decide +kernel
theorem g_Mo_ended : sv_G m_Mo_ended 0 := ⟨by decide +kernel, sv_in 1771 (by decide +kernel) rfl, sv_in 103 (by decide +kernel) rfl, ⟨by decide, by decide⟩, by decide +kernel, by decide⟩
theorem in_Mo_ended : Cond.instanceMethod m_Mo_ended.1 ∈ sv_T := sv_in 1769 (by decide +kernel) rfl
theorem se_Mo_ended : Cond.selects m_Mo_ended.1.cls m_Mo_ended.1 m_Mo_ended.1 ∈ sv_T := sv_in 1770 (by decide +kernel) rfl
def F_Mo_ended (s : sv_S) : Option (Int32) :=
  if 0 ≤ (s.1 187 51) then
    some (s.1 187 51)
  else
  some (-3 : Int32)
theorem V_Mo_ended (E : sv_E) (d : Nat) (s : sv_S) : sv_V E m_Mo_ended (d + 0) (ss_pi s) 0 (lv_args 0 [sv_r E 187]) [] (ss_e s) (F_Mo_ended s) := by
  show sv_V E m_Mo_ended (d + 0) (ss_pi s) 0 [(0, sv_r E 187)] [] (ss_e s) _
  unfold F_Mo_ended
  refine sv_aload_n (pc := 0) 0 (sv_d k_Mo_ended 0 rfl) rfl rfl ?_
  refine sv_getf (pc := 1) 51 (sv_d k_Mo_ended 1 rfl) cf12 (by decide) w1353 kd187 (ss_lt (by decide)) rfl ?_
  refine sv_if_ge (pc := 4) (tgt := 12) (sv_d k_Mo_ended 2 rfl) (by decide) ?_ ?_
  · refine sv_aload_n (pc := 12) 0 (sv_d k_Mo_ended 5 rfl) rfl rfl ?_
    refine sv_getf (pc := 13) 51 (sv_d k_Mo_ended 6 rfl) cf12 (by decide) w1353 kd187 (ss_lt (by decide)) rfl ?_
    exact sv_ret (pc := 16) (sv_d k_Mo_ended 7 rfl) ⟨_, rfl, rfl⟩ rfl
  · refine sv_bipush (pc := 7) (v := (-3 : Int32)) (sv_d k_Mo_ended 3 rfl) (by decide) ?_
    refine sv_goto (pc := 9) (tgt := 16) (sv_d k_Mo_ended 4 rfl) (by decide) ?_
    exact sv_ret (pc := 16) (sv_d k_Mo_ended 7 rfl) ⟨_, rfl, rfl⟩ rfl
/-! Mo_isTruck -/
abbrev m_Mo_isTruck : sv_M := (yX12_isTruck, cX12_isTruck, 2, (some .boolean))
def t_Mo_isTruck : List (Nat × Instr × Nat) := [(0, .aload_n 0, 1), (1, .iload_n 1, 1), (2, .iconst 0, 1), (3, .aload_n 0, 1), (4, .getfield 163, 3), (7, .iconst 1, 1), (8, .isub, 1), (9, .invokevirtual 251, 3), (12, .ireturn, 1)]
theorem k_Mo_isTruck : sv_tk m_Mo_isTruck.2.1 t_Mo_isTruck := by decide +kernel
theorem g_Mo_isTruck : sv_G m_Mo_isTruck 1 := ⟨by decide +kernel, sv_in 1779 (by decide +kernel) rfl, sv_in 103 (by decide +kernel) rfl, ⟨by decide, by decide⟩, by decide +kernel, by decide⟩
theorem in_Mo_isTruck : Cond.instanceMethod m_Mo_isTruck.1 ∈ sv_T := sv_in 1778 (by decide +kernel) rfl
theorem se_Mo_isTruck : Cond.selects m_Mo_isTruck.1.cls m_Mo_isTruck.1 m_Mo_isTruck.1 ∈ sv_T := sv_in 69 (by decide +kernel) rfl
def F_Mo_isTruck (x1 : Int32) (s : sv_S) : Option (Int32) :=
  (F_Mo_in x1 (0 : Int32) ((s.1 187 50) - (1 : Int32)) s).bind fun r1 =>
  if sv_bl r1 = true then some r1 else none
theorem V_Mo_isTruck (E : sv_E) (d : Nat) (x1 : Int32) (s : sv_S) : sv_V E m_Mo_isTruck (d + 1) (ss_pi s) 0 (lv_args 0 [sv_r E 187, .int x1]) [] (ss_e s) (F_Mo_isTruck x1 s) := by
  show sv_V E m_Mo_isTruck (d + 1) (ss_pi s) 0 [(0, sv_r E 187), (1, .int x1)] [] (ss_e s) _
  unfold F_Mo_isTruck
  refine sv_aload_n (pc := 0) 0 (sv_d k_Mo_isTruck 0 rfl) rfl rfl ?_
  refine sv_iload_n (pc := 1) 1 (sv_d k_Mo_isTruck 1 rfl) rfl rfl ?_
  refine sv_iconst (pc := 2) (v := (0 : Int32)) (sv_d k_Mo_isTruck 2 rfl) (by decide) ?_
  refine sv_aload_n (pc := 3) 0 (sv_d k_Mo_isTruck 3 rfl) rfl rfl ?_
  refine sv_getf (pc := 4) 50 (sv_d k_Mo_isTruck 4 rfl) cf12 (by decide) w1352 kd187 (ss_lt (by decide)) rfl ?_
  refine sv_iconst (pc := 7) (v := (1 : Int32)) (sv_d k_Mo_isTruck 5 rfl) (by decide) ?_
  refine sv_isub (pc := 8) (sv_d k_Mo_isTruck 6 rfl) ?_
  refine sv_callV (pc := 9) (ψ := (ss_pi s)) (As := [.int x1, .int (0 : Int32), .int ((s.1 187 50) - (1 : Int32))]) (rest := []) (c := 187) (sv_d k_Mo_isTruck 7 rfl) g_Mo_in w1545 in_Mo_in se_Mo_in cf12 kd187 (ss_lt (by decide)) rfl (Nat.le_of_ble_eq_true rfl) (V_Mo_in E (d + 0) x1 (0 : Int32) ((s.1 187 50) - (1 : Int32)) s) (Nat.le_of_ble_eq_true rfl) rfl (fun r1 => ?_)
  show sv_V E _ _ _ 12 _ [.int r1] (ss_e s) _
  exact ss_grd (fun bb2 => sv_ret (pc := 12) (sv_d k_Mo_isTruck 8 rfl) ⟨_, rfl, sv_bln bb2⟩ rfl)
/-! Mo_dueOf -/
abbrev m_Mo_dueOf : sv_M := (yX12_dueOf, cX12_dueOf, 2, (some .int))
def t_Mo_dueOf : List (Nat × Instr × Nat) := [(0, .aload_n 0, 1), (1, .aload_n 0, 1), (2, .getfield 181, 3), (5, .iload_n 1, 1), (6, .iaload, 1), (7, .invokevirtual 382, 3), (10, .aload_n 0, 1), (11, .aload_n 0, 1), (12, .getfield 169, 3), (15, .iload_n 1, 1), (16, .iaload, 1), (17, .aload_n 0, 1), (18, .getfield 172, 3), (21, .iload_n 1, 1), (22, .iaload, 1), (23, .aload_n 0, 1), (24, .getfield 175, 3), (27, .iload_n 1, 1), (28, .iaload, 1), (29, .aload_n 0, 1), (30, .getfield 181, 3), (33, .iload_n 1, 1), (34, .iaload, 1), (35, .invokevirtual 385, 3), (38, .ireturn, 1)]
theorem k_Mo_dueOf : sv_tk m_Mo_dueOf.2.1 t_Mo_dueOf := by decide +kernel
theorem g_Mo_dueOf : sv_G m_Mo_dueOf 1 := ⟨by decide +kernel, sv_in 1783 (by decide +kernel) rfl, sv_in 103 (by decide +kernel) rfl, ⟨by decide, by decide⟩, by decide +kernel, by decide⟩
theorem in_Mo_dueOf : Cond.instanceMethod m_Mo_dueOf.1 ∈ sv_T := sv_in 1782 (by decide +kernel) rfl
theorem se_Mo_dueOf : Cond.selects m_Mo_dueOf.1.cls m_Mo_dueOf.1 m_Mo_dueOf.1 ∈ sv_T := sv_in 70 (by decide +kernel) rfl
def F_Mo_dueOf (x1 : Int32) (s : sv_S) : Option (Int32 × sv_S) :=
  if sv_ib x1 80 = true then
    (F_Mo_prepare (s.1 226 x1.toNatClampNeg) s).bind fun r1 =>
    if sv_ib x1 80 = true then
      if sv_ib x1 80 = true then
        if sv_ib x1 80 = true then
          if sv_ib x1 80 = true then
            (F_Mo_chargeOf (r1.1 222 x1.toNatClampNeg) (r1.1 223 x1.toNatClampNeg) (r1.1 224 x1.toNatClampNeg) (r1.1 226 x1.toNatClampNeg) r1).bind fun r2 =>
            some (r2, r1)
          else none
        else none
      else none
    else none
  else none
theorem V_Mo_dueOf (E : sv_E) (d : Nat) (x1 : Int32) (s : sv_S) : sv_V E m_Mo_dueOf (d + 9) ss_i 0 (lv_args 0 [sv_r E 187, .int x1]) [] (ss_e s) (F_Mo_dueOf x1 s) := by
  show sv_V E m_Mo_dueOf (d + 9) ss_i 0 [(0, sv_r E 187), (1, .int x1)] [] (ss_e s) _
  unfold F_Mo_dueOf
  refine sv_aload_n (pc := 0) 0 (sv_d k_Mo_dueOf 0 rfl) rfl rfl ?_
  refine sv_aload_n (pc := 1) 0 (sv_d k_Mo_dueOf 1 rfl) rfl rfl ?_
  refine sv_getf (pc := 2) 56 (sv_d k_Mo_dueOf 2 rfl) cf12 (by decide) w1358 kd187 (ss_lt (by decide)) (lr_187_56 E _) ?_
  refine sv_iload_n (pc := 5) 1 (sv_d k_Mo_dueOf 3 rfl) rfl rfl ?_
  refine ss_iald (pc := 6) (n := 80) (sv_d k_Mo_dueOf 4 rfl) kd226 (ss_lt (by decide)) rfl ?_
  refine sv_callV (pc := 7) (ψ := ss_v) (As := [.int (s.1 226 x1.toNatClampNeg)]) (rest := []) (c := 187) (sv_d k_Mo_dueOf 5 rfl) g_Mo_prepare w1734 in_Mo_prepare se_Mo_prepare cf12 kd187 (ss_lt (by decide)) rfl (Nat.le_of_ble_eq_true rfl) (V_Mo_prepare E (d + 0) (s.1 226 x1.toNatClampNeg) s) (Nat.le_of_ble_eq_true rfl) rfl (fun r1 => ?_)
  show sv_V E _ _ _ 10 _ [] (ss_e r1) _
  refine sv_aload_n (pc := 10) 0 (sv_d k_Mo_dueOf 6 rfl) rfl rfl ?_
  refine sv_aload_n (pc := 11) 0 (sv_d k_Mo_dueOf 7 rfl) rfl rfl ?_
  refine sv_getf (pc := 12) 52 (sv_d k_Mo_dueOf 8 rfl) cf12 (by decide) w1354 kd187 (ss_lt (by decide)) (lr_187_52 E _) ?_
  refine sv_iload_n (pc := 15) 1 (sv_d k_Mo_dueOf 9 rfl) rfl rfl ?_
  refine ss_iald (pc := 16) (n := 80) (sv_d k_Mo_dueOf 10 rfl) kd222 (ss_lt (by decide)) rfl ?_
  refine sv_aload_n (pc := 17) 0 (sv_d k_Mo_dueOf 11 rfl) rfl rfl ?_
  refine sv_getf (pc := 18) 53 (sv_d k_Mo_dueOf 12 rfl) cf12 (by decide) w1355 kd187 (ss_lt (by decide)) (lr_187_53 E _) ?_
  refine sv_iload_n (pc := 21) 1 (sv_d k_Mo_dueOf 13 rfl) rfl rfl ?_
  refine ss_iald (pc := 22) (n := 80) (sv_d k_Mo_dueOf 14 rfl) kd223 (ss_lt (by decide)) rfl ?_
  refine sv_aload_n (pc := 23) 0 (sv_d k_Mo_dueOf 15 rfl) rfl rfl ?_
  refine sv_getf (pc := 24) 54 (sv_d k_Mo_dueOf 16 rfl) cf12 (by decide) w1356 kd187 (ss_lt (by decide)) (lr_187_54 E _) ?_
  refine sv_iload_n (pc := 27) 1 (sv_d k_Mo_dueOf 17 rfl) rfl rfl ?_
  refine ss_iald (pc := 28) (n := 80) (sv_d k_Mo_dueOf 18 rfl) kd224 (ss_lt (by decide)) rfl ?_
  refine sv_aload_n (pc := 29) 0 (sv_d k_Mo_dueOf 19 rfl) rfl rfl ?_
  refine sv_getf (pc := 30) 56 (sv_d k_Mo_dueOf 20 rfl) cf12 (by decide) w1358 kd187 (ss_lt (by decide)) (lr_187_56 E _) ?_
  refine sv_iload_n (pc := 33) 1 (sv_d k_Mo_dueOf 21 rfl) rfl rfl ?_
  refine ss_iald (pc := 34) (n := 80) (sv_d k_Mo_dueOf 22 rfl) kd226 (ss_lt (by decide)) rfl ?_
  refine sv_callV (pc := 35) (ψ := (ss_pi r1)) (As := [.int (r1.1 222 x1.toNatClampNeg), .int (r1.1 223 x1.toNatClampNeg), .int (r1.1 224 x1.toNatClampNeg), .int (r1.1 226 x1.toNatClampNeg)]) (rest := []) (c := 187) (sv_d k_Mo_dueOf 23 rfl) g_Mo_chargeOf w1738 in_Mo_chargeOf se_Mo_chargeOf cf12 kd187 (ss_lt (by decide)) rfl (Nat.le_of_ble_eq_true rfl) (V_Mo_chargeOf E (d + 8) (r1.1 222 x1.toNatClampNeg) (r1.1 223 x1.toNatClampNeg) (r1.1 224 x1.toNatClampNeg) (r1.1 226 x1.toNatClampNeg) r1) (Nat.le_of_ble_eq_true rfl) rfl (fun r2 => ?_)
  show sv_V E _ _ _ 38 _ [.int r2] (ss_e r1) _
  exact sv_ret (pc := 38) (sv_d k_Mo_dueOf 24 rfl) ⟨_, rfl, rfl⟩ rfl
/-! Mo_due -/
abbrev m_Mo_due : sv_M := (yX12_due, cX12_due, 3, (some .int))
def t_Mo_due : List (Nat × Instr × Nat) := [(0, .aload_n 0, 1), (1, .iload_n 1, 1), (2, .invokevirtual 400, 3), (5, .ifCond .ne 5, 3), (8, .iconst (-1), 1), (9, .ireturn, 1), (10, .aload_n 0, 1), (11, .iload_n 1, 1), (12, .invokevirtual 403, 3), (15, .istore_n 2, 1), (16, .iload_n 2, 1), (17, .ifCond .ge 8, 3), (20, .bipush (-3), 2), (22, .goto 4, 3), (25, .iload_n 2, 1), (26, .ireturn, 1)]
theorem k_Mo_due : sv_tk m_Mo_due.2.1 t_Mo_due := by decide +kernel
theorem g_Mo_due : sv_G m_Mo_due 1 := ⟨by decide +kernel, sv_in 1775 (by decide +kernel) rfl, sv_in 103 (by decide +kernel) rfl, ⟨by decide, by decide⟩, by decide +kernel, by decide⟩
theorem in_Mo_due : Cond.instanceMethod m_Mo_due.1 ∈ sv_T := sv_in 1773 (by decide +kernel) rfl
theorem se_Mo_due : Cond.selects m_Mo_due.1.cls m_Mo_due.1 m_Mo_due.1 ∈ sv_T := sv_in 1774 (by decide +kernel) rfl
def F_Mo_due (x1 : Int32) (s : sv_S) : Option (Int32 × sv_S) :=
  (F_Mo_isTruck x1 s).bind fun r1 =>
  if r1 = 0 then
    some ((-1 : Int32), s)
  else
  (F_Mo_dueOf x1 s).bind fun r2 =>
  if 0 ≤ r2.1 then
    some (r2.1, r2.2)
  else
  some ((-3 : Int32), r2.2)
theorem V_Mo_due (E : sv_E) (d : Nat) (x1 : Int32) (s : sv_S) : sv_V E m_Mo_due (d + 10) ss_i 0 (lv_args 0 [sv_r E 187, .int x1]) [] (ss_e s) (F_Mo_due x1 s) := by
  show sv_V E m_Mo_due (d + 10) ss_i 0 [(0, sv_r E 187), (1, .int x1)] [] (ss_e s) _
  unfold F_Mo_due
  refine sv_aload_n (pc := 0) 0 (sv_d k_Mo_due 0 rfl) rfl rfl ?_
  refine sv_iload_n (pc := 1) 1 (sv_d k_Mo_due 1 rfl) rfl rfl ?_
  refine sv_callV (pc := 2) (ψ := (ss_pi s)) (As := [.int x1]) (rest := []) (c := 187) (sv_d k_Mo_due 2 rfl) g_Mo_isTruck w1776 in_Mo_isTruck se_Mo_isTruck cf12 kd187 (ss_lt (by decide)) rfl (Nat.le_of_ble_eq_true rfl) (V_Mo_isTruck E (d + 8) x1 s) (Nat.le_of_ble_eq_true rfl) rfl (fun r1 => ?_)
  show sv_V E _ _ _ 5 _ [.int r1] (ss_e s) _
  refine sv_if_ne (pc := 5) (tgt := 10) (sv_d k_Mo_due 3 rfl) (by decide) ?_ ?_
  · refine sv_aload_n (pc := 10) 0 (sv_d k_Mo_due 6 rfl) rfl rfl ?_
    refine sv_iload_n (pc := 11) 1 (sv_d k_Mo_due 7 rfl) rfl rfl ?_
    refine sv_callV (pc := 12) (ψ := ss_i) (As := [.int x1]) (rest := []) (c := 187) (sv_d k_Mo_due 8 rfl) g_Mo_dueOf w1780 in_Mo_dueOf se_Mo_dueOf cf12 kd187 (ss_lt (by decide)) rfl (Nat.le_of_ble_eq_true rfl) (V_Mo_dueOf E (d + 0) x1 s) (Nat.le_of_ble_eq_true rfl) rfl (fun r2 => ?_)
    show sv_V E _ _ _ 15 _ [.int r2.1] (ss_e r2.2) _
    refine sv_istore_n (pc := 15) (lv' := [(2, .int r2.1), (0, sv_r E 187), (1, .int x1)]) (sv_d k_Mo_due 9 rfl) rfl (by decide) rfl ?_
    refine sv_iload_n (pc := 16) 0 (sv_d k_Mo_due 10 rfl) rfl rfl ?_
    refine sv_if_ge (pc := 17) (tgt := 25) (sv_d k_Mo_due 11 rfl) (by decide) ?_ ?_
    · refine sv_iload_n (pc := 25) 0 (sv_d k_Mo_due 14 rfl) rfl rfl ?_
      exact sv_ret (pc := 26) (sv_d k_Mo_due 15 rfl) ⟨_, rfl, rfl⟩ rfl
    · refine sv_bipush (pc := 20) (v := (-3 : Int32)) (sv_d k_Mo_due 12 rfl) (by decide) ?_
      refine sv_goto (pc := 22) (tgt := 26) (sv_d k_Mo_due 13 rfl) (by decide) ?_
      exact sv_ret (pc := 26) (sv_d k_Mo_due 15 rfl) ⟨_, rfl, rfl⟩ rfl
  · refine sv_iconst (pc := 8) (v := (-1 : Int32)) (sv_d k_Mo_due 4 rfl) (by decide) ?_
    exact sv_ret (pc := 9) (sv_d k_Mo_due 5 rfl) ⟨_, rfl, rfl⟩ rfl
/-! Mo_isBoat -/
abbrev m_Mo_isBoat : sv_M := (yX12_isBoat, cX12_isBoat, 2, (some .boolean))
def t_Mo_isBoat : List (Nat × Instr × Nat) := [(0, .aload_n 0, 1), (1, .getfield 112, 3), (4, .iload_n 1, 1), (5, .iaload, 1), (6, .iconst 4, 1), (7, .if_icmp .ne 7, 3), (10, .iconst 1, 1), (11, .goto 4, 3), (14, .iconst 0, 1), (15, .ireturn, 1)]
theorem k_Mo_isBoat : sv_tk m_Mo_isBoat.2.1 t_Mo_isBoat := by decide +kernel
theorem g_Mo_isBoat : sv_G m_Mo_isBoat 1 := ⟨by decide +kernel, sv_in 1799 (by decide +kernel) rfl, sv_in 103 (by decide +kernel) rfl, ⟨by decide, by decide⟩, by decide +kernel, by decide⟩
theorem in_Mo_isBoat : Cond.instanceMethod m_Mo_isBoat.1 ∈ sv_T := sv_in 1798 (by decide +kernel) rfl
theorem se_Mo_isBoat : Cond.selects m_Mo_isBoat.1.cls m_Mo_isBoat.1 m_Mo_isBoat.1 ∈ sv_T := sv_in 73 (by decide +kernel) rfl
def F_Mo_isBoat (x1 : Int32) (s : sv_S) : Option (Int32) :=
  if sv_ib x1 60 = true then
    if (s.1 205 x1.toNatClampNeg) = (4 : Int32) then
      some (1 : Int32)
    else
    some (0 : Int32)
  else none
theorem V_Mo_isBoat (E : sv_E) (d : Nat) (x1 : Int32) (s : sv_S) : sv_V E m_Mo_isBoat (d + 0) (ss_pi s) 0 (lv_args 0 [sv_r E 187, .int x1]) [] (ss_e s) (F_Mo_isBoat x1 s) := by
  show sv_V E m_Mo_isBoat (d + 0) (ss_pi s) 0 [(0, sv_r E 187), (1, .int x1)] [] (ss_e s) _
  unfold F_Mo_isBoat
  refine sv_aload_n (pc := 0) 0 (sv_d k_Mo_isBoat 0 rfl) rfl rfl ?_
  refine sv_getf (pc := 1) 33 (sv_d k_Mo_isBoat 1 rfl) cf12 (by decide) w1335 kd187 (ss_lt (by decide)) (lr_187_33 E _) ?_
  refine sv_iload_n (pc := 4) 1 (sv_d k_Mo_isBoat 2 rfl) rfl rfl ?_
  refine ss_iald (pc := 5) (n := 60) (sv_d k_Mo_isBoat 3 rfl) kd205 (ss_lt (by decide)) rfl ?_
  refine sv_iconst (pc := 6) (v := (4 : Int32)) (sv_d k_Mo_isBoat 4 rfl) (by decide) ?_
  refine sv_icmp_ne (pc := 7) (tgt := 14) (sv_d k_Mo_isBoat 5 rfl) (by decide) ?_ ?_
  · refine sv_iconst (pc := 14) (v := (0 : Int32)) (sv_d k_Mo_isBoat 8 rfl) (by decide) ?_
    exact sv_ret (pc := 15) (sv_d k_Mo_isBoat 9 rfl) ⟨_, rfl, rfl⟩ rfl
  · refine sv_iconst (pc := 10) (v := (1 : Int32)) (sv_d k_Mo_isBoat 6 rfl) (by decide) ?_
    refine sv_goto (pc := 11) (tgt := 15) (sv_d k_Mo_isBoat 7 rfl) (by decide) ?_
    exact sv_ret (pc := 15) (sv_d k_Mo_isBoat 9 rfl) ⟨_, rfl, rfl⟩ rfl
/-! Mo_ask -/
abbrev m_Mo_ask : sv_M := (yX12_ask, cX12_ask, 6, none)
def t_Mo_ask : List (Nat × Instr × Nat) := [(0, .aload_n 0, 1), (1, .getfield 169, 3), (4, .iload_n 1, 1), (5, .iaload, 1), (6, .istore_n 3, 1), (7, .aload_n 0, 1), (8, .getfield 169, 3), (11, .iload_n 2, 1), (12, .iaload, 1), (13, .istore 4, 2), (15, .aload_n 0, 1), (16, .getfield 181, 3), (19, .iload_n 1, 1), (20, .iaload, 1), (21, .aload_n 0, 1), (22, .getfield 181, 3), (25, .iload_n 2, 1), (26, .iaload, 1), (27, .if_icmp .le 12, 3), (30, .aload_n 0, 1), (31, .getfield 181, 3), (34, .iload_n 1, 1), (35, .iaload, 1), (36, .goto 9, 3), (39, .aload_n 0, 1), (40, .getfield 181, 3), (43, .iload_n 2, 1), (44, .iaload, 1), (45, .istore 5, 2), (47, .aload_n 0, 1), (48, .aload_n 0, 1), (49, .getfield 115, 3), (52, .iload_n 3, 1), (53, .iaload, 1), (54, .iload 5, 2), (56, .invokevirtual 358, 3), (59, .aload_n 0, 1), (60, .getfield 78, 3), (63, .iconst 0, 1), (64, .aload_n 0, 1), (65, .getfield 172, 3), (68, .iload_n 1, 1), (69, .iaload, 1), (70, .iastore, 1), (71, .aload_n 0, 1), (72, .getfield 78, 3), (75, .iconst 1, 1), (76, .aload_n 0, 1), (77, .getfield 59, 3), (80, .aload_n 0, 1), (81, .getfield 172, 3), (84, .iload_n 1, 1), (85, .iaload, 1), (86, .iaload, 1), (87, .iastore, 1), (88, .aload_n 0, 1), (89, .getfield 78, 3), (92, .iconst 2, 1), (93, .aload_n 0, 1), (94, .getfield 115, 3), (97, .iload_n 3, 1), (98, .iaload, 1), (99, .iastore, 1), (100, .aload_n 0, 1), (101, .getfield 78, 3), (104, .iconst 3, 1), (105, .aload_n 0, 1), (106, .getfield 175, 3), (109, .iload_n 1, 1), (110, .iaload, 1), (111, .iastore, 1), (112, .aload_n 0, 1), (113, .getfield 78, 3), (116, .iconst 4, 1), (117, .aload_n 0, 1), (118, .getfield 181, 3), (121, .iload_n 1, 1), (122, .iaload, 1), (123, .aload_n 0, 1), (124, .getfield 181, 3), (127, .iload_n 2, 1), (128, .iaload, 1), (129, .if_icmp .le 19, 3), (132, .aload_n 0, 1), (133, .getfield 181, 3), (136, .iload_n 1, 1), (137, .iaload, 1), (138, .aload_n 0, 1), (139, .getfield 181, 3), (142, .iload_n 2, 1), (143, .iaload, 1), (144, .isub, 1), (145, .goto 16, 3), (148, .aload_n 0, 1), (149, .getfield 181, 3), (152, .iload_n 2, 1), (153, .iaload, 1), (154, .aload_n 0, 1), (155, .getfield 181, 3), (158, .iload_n 1, 1), (159, .iaload, 1), (160, .isub, 1), (161, .iastore, 1), (162, .aload_n 0, 1), (163, .getfield 78, 3), (166, .iconst 5, 1), (167, .aload_n 0, 1), (168, .iload_n 3, 1), (169, .invokevirtual 406, 3), (172, .ifCond .ne 12, 3), (175, .aload_n 0, 1), (176, .iload 4, 2), (178, .invokevirtual 406, 3), (181, .ifCond .eq 7, 3), (184, .iconst 1, 1), (185, .goto 4, 3), (188, .iconst 0, 1), (189, .iastore, 1), (190, .aload_n 0, 1), (191, .getfield 78, 3), (194, .bipush 6, 2), (196, .aload_n 0, 1), (197, .getfield 115, 3), (200, .iload_n 3, 1), (201, .iaload, 1), (202, .aload_n 0, 1), (203, .getfield 115, 3), (206, .iload 4, 2), (208, .iaload, 1), (209, .if_icmp .ne 7, 3), (212, .iconst 1, 1), (213, .goto 4, 3), (216, .iconst 0, 1), (217, .iastore, 1), (218, .aload_n 0, 1), (219, .iconst (-1), 1), (220, .iload 5, 2), (222, .invokevirtual 358, 3), (225, .return_, 1)]
theorem k_Mo_ask : sv_tk m_Mo_ask.2.1 t_Mo_ask := by decide +kernel
theorem g_Mo_ask : sv_G m_Mo_ask 2 := ⟨by decide +kernel, sv_in 1795 (by decide +kernel) rfl, sv_in 103 (by decide +kernel) rfl, ⟨by decide, by decide⟩, by decide +kernel, by decide⟩
theorem in_Mo_ask : Cond.instanceMethod m_Mo_ask.1 ∈ sv_T := sv_in 1794 (by decide +kernel) rfl
theorem se_Mo_ask : Cond.selects m_Mo_ask.1.cls m_Mo_ask.1 m_Mo_ask.1 ∈ sv_T := sv_in 72 (by decide +kernel) rfl
def F_Mo_ask_b189 (x3 : Int32) (x4 : Int32) (x5 : Int32) (t1 : Int32) (t2 : Int32) (s : sv_S) : Option (sv_S) :=
  if sv_ib t1 7 = true then
    ss_let (ss_setI s 202 t1.toNatClampNeg t2) fun s10 =>
    if sv_ib x3 60 = true then
      if sv_ib x4 60 = true then
        if (s10.1 206 x3.toNatClampNeg) = (s10.1 206 x4.toNatClampNeg) then
          if sv_ib (6 : Int32) 7 = true then
            ss_let (ss_setI s10 202 (6 : Int32).toNatClampNeg (1 : Int32)) fun s13 =>
            (F_Mo_look (-1 : Int32) x5 s13).bind fun r14 =>
            some r14
          else none
        else
        if sv_ib (6 : Int32) 7 = true then
          ss_let (ss_setI s10 202 (6 : Int32).toNatClampNeg (0 : Int32)) fun s11 =>
          (F_Mo_look (-1 : Int32) x5 s11).bind fun r12 =>
          some r12
        else none
      else none
    else none
  else none
theorem V_Mo_ask_b189 (E : sv_E) (d : Nat) (x3 : Int32) (x4 : Int32) (x5 : Int32) (t1 : Int32) (t2 : Int32) (s : sv_S) : sv_V E m_Mo_ask (d + 8) ss_v 189 [(0, sv_r E 187), (3, .int x3), (4, .int x4), (5, .int x5)] [.int t2, .int t1, sv_r E 202] (ss_e s) (F_Mo_ask_b189 x3 x4 x5 t1 t2 s) := by
  unfold F_Mo_ask_b189
  refine ss_iast (pc := 189) (n := 7) (sv_d k_Mo_ask 117 rfl) kd202 (by decide) (ss_lt (by decide)) rfl (ss_lets (fun s10 e_s10 => ?_))
  refine sv_aload_n (pc := 190) 0 (sv_d k_Mo_ask 118 rfl) rfl rfl ?_
  refine sv_getf (pc := 191) 22 (sv_d k_Mo_ask 119 rfl) cf12 (by decide) w1324 kd187 (ss_lt (by decide)) (lr_187_22 E _) ?_
  refine sv_bipush (pc := 194) (v := (6 : Int32)) (sv_d k_Mo_ask 120 rfl) (by decide) ?_
  refine sv_aload_n (pc := 196) 0 (sv_d k_Mo_ask 121 rfl) rfl rfl ?_
  refine sv_getf (pc := 197) 34 (sv_d k_Mo_ask 122 rfl) cf12 (by decide) w1336 kd187 (ss_lt (by decide)) (lr_187_34 E _) ?_
  refine sv_iload_n (pc := 200) 1 (sv_d k_Mo_ask 123 rfl) rfl rfl ?_
  refine ss_iald (pc := 201) (n := 60) (sv_d k_Mo_ask 124 rfl) kd206 (ss_lt (by decide)) rfl ?_
  refine sv_aload_n (pc := 202) 0 (sv_d k_Mo_ask 125 rfl) rfl rfl ?_
  refine sv_getf (pc := 203) 34 (sv_d k_Mo_ask 126 rfl) cf12 (by decide) w1336 kd187 (ss_lt (by decide)) (lr_187_34 E _) ?_
  refine sv_iload (pc := 206) 2 (sv_d k_Mo_ask 127 rfl) rfl ?_
  refine ss_iald (pc := 208) (n := 60) (sv_d k_Mo_ask 128 rfl) kd206 (ss_lt (by decide)) rfl ?_
  refine sv_icmp_ne (pc := 209) (tgt := 216) (sv_d k_Mo_ask 129 rfl) (by decide) ?_ ?_
  · refine sv_iconst (pc := 216) (v := (0 : Int32)) (sv_d k_Mo_ask 132 rfl) (by decide) ?_
    refine ss_iast (pc := 217) (n := 7) (sv_d k_Mo_ask 133 rfl) kd202 (by decide) (ss_lt (by decide)) rfl (ss_lets (fun s11 e_s11 => ?_))
    refine sv_aload_n (pc := 218) 0 (sv_d k_Mo_ask 134 rfl) rfl rfl ?_
    refine sv_iconst (pc := 219) (v := (-1 : Int32)) (sv_d k_Mo_ask 135 rfl) (by decide) ?_
    refine sv_iload (pc := 220) 3 (sv_d k_Mo_ask 136 rfl) rfl ?_
    refine sv_callV (pc := 222) (ψ := ss_v) (As := [.int (-1 : Int32), .int x5]) (rest := []) (c := 187) (sv_d k_Mo_ask 137 rfl) g_Mo_look w1670 in_Mo_look se_Mo_look cf12 kd187 (ss_lt (by decide)) rfl (Nat.le_of_ble_eq_true rfl) (V_Mo_look E (d + 0) (-1 : Int32) x5 s11) (Nat.le_of_ble_eq_true rfl) rfl (fun r12 => ?_)
    show sv_V E _ _ _ 225 _ [] (ss_e r12) _
    exact sv_retv (pc := 225) (sv_d k_Mo_ask 138 rfl) rfl rfl
  · refine sv_iconst (pc := 212) (v := (1 : Int32)) (sv_d k_Mo_ask 130 rfl) (by decide) ?_
    refine sv_goto (pc := 213) (tgt := 217) (sv_d k_Mo_ask 131 rfl) (by decide) ?_
    refine ss_iast (pc := 217) (n := 7) (sv_d k_Mo_ask 133 rfl) kd202 (by decide) (ss_lt (by decide)) rfl (ss_lets (fun s13 e_s13 => ?_))
    refine sv_aload_n (pc := 218) 0 (sv_d k_Mo_ask 134 rfl) rfl rfl ?_
    refine sv_iconst (pc := 219) (v := (-1 : Int32)) (sv_d k_Mo_ask 135 rfl) (by decide) ?_
    refine sv_iload (pc := 220) 3 (sv_d k_Mo_ask 136 rfl) rfl ?_
    refine sv_callV (pc := 222) (ψ := ss_v) (As := [.int (-1 : Int32), .int x5]) (rest := []) (c := 187) (sv_d k_Mo_ask 137 rfl) g_Mo_look w1670 in_Mo_look se_Mo_look cf12 kd187 (ss_lt (by decide)) rfl (Nat.le_of_ble_eq_true rfl) (V_Mo_look E (d + 0) (-1 : Int32) x5 s13) (Nat.le_of_ble_eq_true rfl) rfl (fun r14 => ?_)
    show sv_V E _ _ _ 225 _ [] (ss_e r14) _
    exact sv_retv (pc := 225) (sv_d k_Mo_ask 138 rfl) rfl rfl
def F_Mo_ask_b184 (x3 : Int32) (x4 : Int32) (x5 : Int32) (t1 : Int32) (s : sv_S) : Option (sv_S) :=
  F_Mo_ask_b189 x3 x4 x5 t1 (1 : Int32) s
theorem V_Mo_ask_b184 (E : sv_E) (d : Nat) (x3 : Int32) (x4 : Int32) (x5 : Int32) (t1 : Int32) (s : sv_S) : sv_V E m_Mo_ask (d + 8) ss_v 184 [(0, sv_r E 187), (3, .int x3), (4, .int x4), (5, .int x5)] [.int t1, sv_r E 202] (ss_e s) (F_Mo_ask_b184 x3 x4 x5 t1 s) := by
  unfold F_Mo_ask_b184
  refine sv_iconst (pc := 184) (v := (1 : Int32)) (sv_d k_Mo_ask 114 rfl) (by decide) ?_
  refine sv_goto (pc := 185) (tgt := 189) (sv_d k_Mo_ask 115 rfl) (by decide) ?_
  exact sv_loc [0, 1, 2, 3] rfl (V_Mo_ask_b189 E d x3 x4 x5 t1 (1 : Int32) s)
def F_Mo_ask_b161 (x3 : Int32) (x4 : Int32) (x5 : Int32) (t1 : Int32) (t2 : Int32) (s : sv_S) : Option (sv_S) :=
  if sv_ib t1 7 = true then
    ss_let (ss_setI s 202 t1.toNatClampNeg t2) fun s8 =>
    (F_Mo_isBoat x3 s8).bind fun r9 =>
    if r9 = 0 then
      (F_Mo_isBoat x4 s8).bind fun r15 =>
      if r15 = 0 then
        F_Mo_ask_b189 x3 x4 x5 (5 : Int32) (0 : Int32) s8
      else
      F_Mo_ask_b184 x3 x4 x5 (5 : Int32) s8
    else
    F_Mo_ask_b184 x3 x4 x5 (5 : Int32) s8
  else none
theorem V_Mo_ask_b161 (E : sv_E) (d : Nat) (x3 : Int32) (x4 : Int32) (x5 : Int32) (t1 : Int32) (t2 : Int32) (s : sv_S) : sv_V E m_Mo_ask (d + 8) ss_v 161 [(0, sv_r E 187), (3, .int x3), (4, .int x4), (5, .int x5)] [.int t2, .int t1, sv_r E 202] (ss_e s) (F_Mo_ask_b161 x3 x4 x5 t1 t2 s) := by
  unfold F_Mo_ask_b161
  refine ss_iast (pc := 161) (n := 7) (sv_d k_Mo_ask 102 rfl) kd202 (by decide) (ss_lt (by decide)) rfl (ss_lets (fun s8 e_s8 => ?_))
  refine sv_aload_n (pc := 162) 0 (sv_d k_Mo_ask 103 rfl) rfl rfl ?_
  refine sv_getf (pc := 163) 22 (sv_d k_Mo_ask 104 rfl) cf12 (by decide) w1324 kd187 (ss_lt (by decide)) (lr_187_22 E _) ?_
  refine sv_iconst (pc := 166) (v := (5 : Int32)) (sv_d k_Mo_ask 105 rfl) (by decide) ?_
  refine sv_aload_n (pc := 167) 0 (sv_d k_Mo_ask 106 rfl) rfl rfl ?_
  refine sv_iload_n (pc := 168) 1 (sv_d k_Mo_ask 107 rfl) rfl rfl ?_
  refine sv_callV (pc := 169) (ψ := (ss_pi s8)) (As := [.int x3]) (rest := [.int (5 : Int32), sv_r E 202]) (c := 187) (sv_d k_Mo_ask 108 rfl) g_Mo_isBoat w1796 in_Mo_isBoat se_Mo_isBoat cf12 kd187 (ss_lt (by decide)) rfl (Nat.le_of_ble_eq_true rfl) (V_Mo_isBoat E (d + 7) x3 s8) (Nat.le_of_ble_eq_true rfl) rfl (fun r9 => ?_)
  show sv_V E _ _ _ 172 _ [.int r9, .int (5 : Int32), sv_r E 202] (ss_e s8) _
  refine sv_if_ne (pc := 172) (tgt := 184) (sv_d k_Mo_ask 109 rfl) (by decide) ?_ ?_
  · exact sv_loc [0, 1, 2, 3] rfl (V_Mo_ask_b184 E d x3 x4 x5 (5 : Int32) s8)
  · refine sv_aload_n (pc := 175) 0 (sv_d k_Mo_ask 110 rfl) rfl rfl ?_
    refine sv_iload (pc := 176) 2 (sv_d k_Mo_ask 111 rfl) rfl ?_
    refine sv_callV (pc := 178) (ψ := (ss_pi s8)) (As := [.int x4]) (rest := [.int (5 : Int32), sv_r E 202]) (c := 187) (sv_d k_Mo_ask 112 rfl) g_Mo_isBoat w1796 in_Mo_isBoat se_Mo_isBoat cf12 kd187 (ss_lt (by decide)) rfl (Nat.le_of_ble_eq_true rfl) (V_Mo_isBoat E (d + 7) x4 s8) (Nat.le_of_ble_eq_true rfl) rfl (fun r15 => ?_)
    show sv_V E _ _ _ 181 _ [.int r15, .int (5 : Int32), sv_r E 202] (ss_e s8) _
    refine sv_if_eq (pc := 181) (tgt := 188) (sv_d k_Mo_ask 113 rfl) (by decide) ?_ ?_
    · refine sv_iconst (pc := 188) (v := (0 : Int32)) (sv_d k_Mo_ask 116 rfl) (by decide) ?_
      exact sv_loc [0, 1, 2, 3] rfl (V_Mo_ask_b189 E d x3 x4 x5 (5 : Int32) (0 : Int32) s8)
    · exact sv_loc [0, 1, 2, 3] rfl (V_Mo_ask_b184 E d x3 x4 x5 (5 : Int32) s8)
def F_Mo_ask_b45 (x1 : Int32) (x2 : Int32) (x3 : Int32) (x4 : Int32) (t0 : Int32) (s : sv_S) : Option (sv_S) :=
  if sv_ib x3 60 = true then
    (F_Mo_look (s.1 206 x3.toNatClampNeg) t0 s).bind fun r3 =>
    if sv_ib x1 80 = true then
      if sv_ib (0 : Int32) 7 = true then
        ss_let (ss_setI r3 202 (0 : Int32).toNatClampNeg (r3.1 223 x1.toNatClampNeg)) fun s4 =>
        if sv_ib x1 80 = true then
          if sv_ib (s4.1 223 x1.toNatClampNeg) 20 = true then
            if sv_ib (1 : Int32) 7 = true then
              ss_let (ss_setI s4 202 (1 : Int32).toNatClampNeg (s4.1 199 (s4.1 223 x1.toNatClampNeg).toNatClampNeg)) fun s5 =>
              if sv_ib x3 60 = true then
                if sv_ib (2 : Int32) 7 = true then
                  ss_let (ss_setI s5 202 (2 : Int32).toNatClampNeg (s5.1 206 x3.toNatClampNeg)) fun s6 =>
                  if sv_ib x1 80 = true then
                    if sv_ib (3 : Int32) 7 = true then
                      ss_let (ss_setI s6 202 (3 : Int32).toNatClampNeg (s6.1 224 x1.toNatClampNeg)) fun s7 =>
                      if sv_ib x1 80 = true then
                        if sv_ib x2 80 = true then
                          if (s7.1 226 x1.toNatClampNeg) ≤ (s7.1 226 x2.toNatClampNeg) then
                            if sv_ib x2 80 = true then
                              if sv_ib x1 80 = true then
                                F_Mo_ask_b161 x3 x4 t0 (4 : Int32) ((s7.1 226 x2.toNatClampNeg) - (s7.1 226 x1.toNatClampNeg)) s7
                              else none
                            else none
                          else
                          if sv_ib x1 80 = true then
                            if sv_ib x2 80 = true then
                              F_Mo_ask_b161 x3 x4 t0 (4 : Int32) ((s7.1 226 x1.toNatClampNeg) - (s7.1 226 x2.toNatClampNeg)) s7
                            else none
                          else none
                        else none
                      else none
                    else none
                  else none
                else none
              else none
            else none
          else none
        else none
      else none
    else none
  else none
theorem V_Mo_ask_b45 (E : sv_E) (d : Nat) (x1 : Int32) (x2 : Int32) (x3 : Int32) (x4 : Int32) (t0 : Int32) (s : sv_S) : sv_V E m_Mo_ask (d + 8) ss_v 45 [(0, sv_r E 187), (1, .int x1), (2, .int x2), (3, .int x3), (4, .int x4)] [.int t0] (ss_e s) (F_Mo_ask_b45 x1 x2 x3 x4 t0 s) := by
  unfold F_Mo_ask_b45
  refine sv_istore (pc := 45) (lv' := [(5, .int t0), (0, sv_r E 187), (1, .int x1), (2, .int x2), (3, .int x3), (4, .int x4)]) (sv_d k_Mo_ask 28 rfl) (by decide) rfl ?_
  refine sv_aload_n (pc := 47) 1 (sv_d k_Mo_ask 29 rfl) rfl rfl ?_
  refine sv_aload_n (pc := 48) 1 (sv_d k_Mo_ask 30 rfl) rfl rfl ?_
  refine sv_getf (pc := 49) 34 (sv_d k_Mo_ask 31 rfl) cf12 (by decide) w1336 kd187 (ss_lt (by decide)) (lr_187_34 E _) ?_
  refine sv_iload_n (pc := 52) 4 (sv_d k_Mo_ask 32 rfl) rfl rfl ?_
  refine ss_iald (pc := 53) (n := 60) (sv_d k_Mo_ask 33 rfl) kd206 (ss_lt (by decide)) rfl ?_
  refine sv_iload (pc := 54) 0 (sv_d k_Mo_ask 34 rfl) rfl ?_
  refine sv_callV (pc := 56) (ψ := ss_v) (As := [.int (s.1 206 x3.toNatClampNeg), .int t0]) (rest := []) (c := 187) (sv_d k_Mo_ask 35 rfl) g_Mo_look w1670 in_Mo_look se_Mo_look cf12 kd187 (ss_lt (by decide)) rfl (Nat.le_of_ble_eq_true rfl) (V_Mo_look E (d + 0) (s.1 206 x3.toNatClampNeg) t0 s) (Nat.le_of_ble_eq_true rfl) rfl (fun r3 => ?_)
  show sv_V E _ _ _ 59 _ [] (ss_e r3) _
  refine sv_aload_n (pc := 59) 1 (sv_d k_Mo_ask 36 rfl) rfl rfl ?_
  refine sv_getf (pc := 60) 22 (sv_d k_Mo_ask 37 rfl) cf12 (by decide) w1324 kd187 (ss_lt (by decide)) (lr_187_22 E _) ?_
  refine sv_iconst (pc := 63) (v := (0 : Int32)) (sv_d k_Mo_ask 38 rfl) (by decide) ?_
  refine sv_aload_n (pc := 64) 1 (sv_d k_Mo_ask 39 rfl) rfl rfl ?_
  refine sv_getf (pc := 65) 53 (sv_d k_Mo_ask 40 rfl) cf12 (by decide) w1355 kd187 (ss_lt (by decide)) (lr_187_53 E _) ?_
  refine sv_iload_n (pc := 68) 2 (sv_d k_Mo_ask 41 rfl) rfl rfl ?_
  refine ss_iald (pc := 69) (n := 80) (sv_d k_Mo_ask 42 rfl) kd223 (ss_lt (by decide)) rfl ?_
  refine ss_iast (pc := 70) (n := 7) (sv_d k_Mo_ask 43 rfl) kd202 (by decide) (ss_lt (by decide)) rfl (ss_lets (fun s4 e_s4 => ?_))
  refine sv_aload_n (pc := 71) 1 (sv_d k_Mo_ask 44 rfl) rfl rfl ?_
  refine sv_getf (pc := 72) 22 (sv_d k_Mo_ask 45 rfl) cf12 (by decide) w1324 kd187 (ss_lt (by decide)) (lr_187_22 E _) ?_
  refine sv_iconst (pc := 75) (v := (1 : Int32)) (sv_d k_Mo_ask 46 rfl) (by decide) ?_
  refine sv_aload_n (pc := 76) 1 (sv_d k_Mo_ask 47 rfl) rfl rfl ?_
  refine sv_getf (pc := 77) 16 (sv_d k_Mo_ask 48 rfl) cf12 (by decide) w1318 kd187 (ss_lt (by decide)) (lr_187_16 E _) ?_
  refine sv_aload_n (pc := 80) 1 (sv_d k_Mo_ask 49 rfl) rfl rfl ?_
  refine sv_getf (pc := 81) 53 (sv_d k_Mo_ask 50 rfl) cf12 (by decide) w1355 kd187 (ss_lt (by decide)) (lr_187_53 E _) ?_
  refine sv_iload_n (pc := 84) 2 (sv_d k_Mo_ask 51 rfl) rfl rfl ?_
  refine ss_iald (pc := 85) (n := 80) (sv_d k_Mo_ask 52 rfl) kd223 (ss_lt (by decide)) rfl ?_
  refine ss_iald (pc := 86) (n := 20) (sv_d k_Mo_ask 53 rfl) kd199 (ss_lt (by decide)) rfl ?_
  refine ss_iast (pc := 87) (n := 7) (sv_d k_Mo_ask 54 rfl) kd202 (by decide) (ss_lt (by decide)) rfl (ss_lets (fun s5 e_s5 => ?_))
  refine sv_aload_n (pc := 88) 1 (sv_d k_Mo_ask 55 rfl) rfl rfl ?_
  refine sv_getf (pc := 89) 22 (sv_d k_Mo_ask 56 rfl) cf12 (by decide) w1324 kd187 (ss_lt (by decide)) (lr_187_22 E _) ?_
  refine sv_iconst (pc := 92) (v := (2 : Int32)) (sv_d k_Mo_ask 57 rfl) (by decide) ?_
  refine sv_aload_n (pc := 93) 1 (sv_d k_Mo_ask 58 rfl) rfl rfl ?_
  refine sv_getf (pc := 94) 34 (sv_d k_Mo_ask 59 rfl) cf12 (by decide) w1336 kd187 (ss_lt (by decide)) (lr_187_34 E _) ?_
  refine sv_iload_n (pc := 97) 4 (sv_d k_Mo_ask 60 rfl) rfl rfl ?_
  refine ss_iald (pc := 98) (n := 60) (sv_d k_Mo_ask 61 rfl) kd206 (ss_lt (by decide)) rfl ?_
  refine ss_iast (pc := 99) (n := 7) (sv_d k_Mo_ask 62 rfl) kd202 (by decide) (ss_lt (by decide)) rfl (ss_lets (fun s6 e_s6 => ?_))
  refine sv_aload_n (pc := 100) 1 (sv_d k_Mo_ask 63 rfl) rfl rfl ?_
  refine sv_getf (pc := 101) 22 (sv_d k_Mo_ask 64 rfl) cf12 (by decide) w1324 kd187 (ss_lt (by decide)) (lr_187_22 E _) ?_
  refine sv_iconst (pc := 104) (v := (3 : Int32)) (sv_d k_Mo_ask 65 rfl) (by decide) ?_
  refine sv_aload_n (pc := 105) 1 (sv_d k_Mo_ask 66 rfl) rfl rfl ?_
  refine sv_getf (pc := 106) 54 (sv_d k_Mo_ask 67 rfl) cf12 (by decide) w1356 kd187 (ss_lt (by decide)) (lr_187_54 E _) ?_
  refine sv_iload_n (pc := 109) 2 (sv_d k_Mo_ask 68 rfl) rfl rfl ?_
  refine ss_iald (pc := 110) (n := 80) (sv_d k_Mo_ask 69 rfl) kd224 (ss_lt (by decide)) rfl ?_
  refine ss_iast (pc := 111) (n := 7) (sv_d k_Mo_ask 70 rfl) kd202 (by decide) (ss_lt (by decide)) rfl (ss_lets (fun s7 e_s7 => ?_))
  refine sv_aload_n (pc := 112) 1 (sv_d k_Mo_ask 71 rfl) rfl rfl ?_
  refine sv_getf (pc := 113) 22 (sv_d k_Mo_ask 72 rfl) cf12 (by decide) w1324 kd187 (ss_lt (by decide)) (lr_187_22 E _) ?_
  refine sv_iconst (pc := 116) (v := (4 : Int32)) (sv_d k_Mo_ask 73 rfl) (by decide) ?_
  refine sv_aload_n (pc := 117) 1 (sv_d k_Mo_ask 74 rfl) rfl rfl ?_
  refine sv_getf (pc := 118) 56 (sv_d k_Mo_ask 75 rfl) cf12 (by decide) w1358 kd187 (ss_lt (by decide)) (lr_187_56 E _) ?_
  refine sv_iload_n (pc := 121) 2 (sv_d k_Mo_ask 76 rfl) rfl rfl ?_
  refine ss_iald (pc := 122) (n := 80) (sv_d k_Mo_ask 77 rfl) kd226 (ss_lt (by decide)) rfl ?_
  refine sv_aload_n (pc := 123) 1 (sv_d k_Mo_ask 78 rfl) rfl rfl ?_
  refine sv_getf (pc := 124) 56 (sv_d k_Mo_ask 79 rfl) cf12 (by decide) w1358 kd187 (ss_lt (by decide)) (lr_187_56 E _) ?_
  refine sv_iload_n (pc := 127) 3 (sv_d k_Mo_ask 80 rfl) rfl rfl ?_
  refine ss_iald (pc := 128) (n := 80) (sv_d k_Mo_ask 81 rfl) kd226 (ss_lt (by decide)) rfl ?_
  refine sv_icmp_le (pc := 129) (tgt := 148) (sv_d k_Mo_ask 82 rfl) (by decide) ?_ ?_
  · refine sv_aload_n (pc := 148) 1 (sv_d k_Mo_ask 93 rfl) rfl rfl ?_
    refine sv_getf (pc := 149) 56 (sv_d k_Mo_ask 94 rfl) cf12 (by decide) w1358 kd187 (ss_lt (by decide)) (lr_187_56 E _) ?_
    refine sv_iload_n (pc := 152) 3 (sv_d k_Mo_ask 95 rfl) rfl rfl ?_
    refine ss_iald (pc := 153) (n := 80) (sv_d k_Mo_ask 96 rfl) kd226 (ss_lt (by decide)) rfl ?_
    refine sv_aload_n (pc := 154) 1 (sv_d k_Mo_ask 97 rfl) rfl rfl ?_
    refine sv_getf (pc := 155) 56 (sv_d k_Mo_ask 98 rfl) cf12 (by decide) w1358 kd187 (ss_lt (by decide)) (lr_187_56 E _) ?_
    refine sv_iload_n (pc := 158) 2 (sv_d k_Mo_ask 99 rfl) rfl rfl ?_
    refine ss_iald (pc := 159) (n := 80) (sv_d k_Mo_ask 100 rfl) kd226 (ss_lt (by decide)) rfl ?_
    refine sv_isub (pc := 160) (sv_d k_Mo_ask 101 rfl) ?_
    exact sv_loc [1, 4, 5, 0] rfl (V_Mo_ask_b161 E d x3 x4 t0 (4 : Int32) ((s7.1 226 x2.toNatClampNeg) - (s7.1 226 x1.toNatClampNeg)) s7)
  · refine sv_aload_n (pc := 132) 1 (sv_d k_Mo_ask 83 rfl) rfl rfl ?_
    refine sv_getf (pc := 133) 56 (sv_d k_Mo_ask 84 rfl) cf12 (by decide) w1358 kd187 (ss_lt (by decide)) (lr_187_56 E _) ?_
    refine sv_iload_n (pc := 136) 2 (sv_d k_Mo_ask 85 rfl) rfl rfl ?_
    refine ss_iald (pc := 137) (n := 80) (sv_d k_Mo_ask 86 rfl) kd226 (ss_lt (by decide)) rfl ?_
    refine sv_aload_n (pc := 138) 1 (sv_d k_Mo_ask 87 rfl) rfl rfl ?_
    refine sv_getf (pc := 139) 56 (sv_d k_Mo_ask 88 rfl) cf12 (by decide) w1358 kd187 (ss_lt (by decide)) (lr_187_56 E _) ?_
    refine sv_iload_n (pc := 142) 3 (sv_d k_Mo_ask 89 rfl) rfl rfl ?_
    refine ss_iald (pc := 143) (n := 80) (sv_d k_Mo_ask 90 rfl) kd226 (ss_lt (by decide)) rfl ?_
    refine sv_isub (pc := 144) (sv_d k_Mo_ask 91 rfl) ?_
    refine sv_goto (pc := 145) (tgt := 161) (sv_d k_Mo_ask 92 rfl) (by decide) ?_
    exact sv_loc [1, 4, 5, 0] rfl (V_Mo_ask_b161 E d x3 x4 t0 (4 : Int32) ((s7.1 226 x1.toNatClampNeg) - (s7.1 226 x2.toNatClampNeg)) s7)
def F_Mo_ask (x1 : Int32) (x2 : Int32) (s : sv_S) : Option (sv_S) :=
  if sv_ib x1 80 = true then
    ss_let (s.1 222 x1.toNatClampNeg) fun v1 =>
    if sv_ib x2 80 = true then
      ss_let (s.1 222 x2.toNatClampNeg) fun v2 =>
      if sv_ib x1 80 = true then
        if sv_ib x2 80 = true then
          if (s.1 226 x1.toNatClampNeg) ≤ (s.1 226 x2.toNatClampNeg) then
            if sv_ib x2 80 = true then
              F_Mo_ask_b45 x1 x2 v1 v2 (s.1 226 x2.toNatClampNeg) s
            else none
          else
          if sv_ib x1 80 = true then
            F_Mo_ask_b45 x1 x2 v1 v2 (s.1 226 x1.toNatClampNeg) s
          else none
        else none
      else none
    else none
  else none
theorem V_Mo_ask (E : sv_E) (d : Nat) (x1 : Int32) (x2 : Int32) (s : sv_S) : sv_V E m_Mo_ask (d + 8) ss_v 0 (lv_args 0 [sv_r E 187, .int x1, .int x2]) [] (ss_e s) (F_Mo_ask x1 x2 s) := by
  show sv_V E m_Mo_ask (d + 8) ss_v 0 [(0, sv_r E 187), (1, .int x1), (2, .int x2)] [] (ss_e s) _
  unfold F_Mo_ask
  refine sv_aload_n (pc := 0) 0 (sv_d k_Mo_ask 0 rfl) rfl rfl ?_
  refine sv_getf (pc := 1) 52 (sv_d k_Mo_ask 1 rfl) cf12 (by decide) w1354 kd187 (ss_lt (by decide)) (lr_187_52 E _) ?_
  refine sv_iload_n (pc := 4) 1 (sv_d k_Mo_ask 2 rfl) rfl rfl ?_
  refine ss_iald (pc := 5) (n := 80) (sv_d k_Mo_ask 3 rfl) kd222 (ss_lt (by decide)) rfl ?_
  refine ss_top (fun v1 e_v1 => ?_)
  refine sv_istore_n (pc := 6) (lv' := [(3, .int v1), (0, sv_r E 187), (1, .int x1), (2, .int x2)]) (sv_d k_Mo_ask 4 rfl) rfl (by decide) rfl ?_
  refine sv_aload_n (pc := 7) 1 (sv_d k_Mo_ask 5 rfl) rfl rfl ?_
  refine sv_getf (pc := 8) 52 (sv_d k_Mo_ask 6 rfl) cf12 (by decide) w1354 kd187 (ss_lt (by decide)) (lr_187_52 E _) ?_
  refine sv_iload_n (pc := 11) 3 (sv_d k_Mo_ask 7 rfl) rfl rfl ?_
  refine ss_iald (pc := 12) (n := 80) (sv_d k_Mo_ask 8 rfl) kd222 (ss_lt (by decide)) rfl ?_
  refine ss_top (fun v2 e_v2 => ?_)
  refine sv_istore (pc := 13) (lv' := [(4, .int v2), (3, .int v1), (0, sv_r E 187), (1, .int x1), (2, .int x2)]) (sv_d k_Mo_ask 9 rfl) (by decide) rfl ?_
  refine sv_aload_n (pc := 15) 2 (sv_d k_Mo_ask 10 rfl) rfl rfl ?_
  refine sv_getf (pc := 16) 56 (sv_d k_Mo_ask 11 rfl) cf12 (by decide) w1358 kd187 (ss_lt (by decide)) (lr_187_56 E _) ?_
  refine sv_iload_n (pc := 19) 3 (sv_d k_Mo_ask 12 rfl) rfl rfl ?_
  refine ss_iald (pc := 20) (n := 80) (sv_d k_Mo_ask 13 rfl) kd226 (ss_lt (by decide)) rfl ?_
  refine sv_aload_n (pc := 21) 2 (sv_d k_Mo_ask 14 rfl) rfl rfl ?_
  refine sv_getf (pc := 22) 56 (sv_d k_Mo_ask 15 rfl) cf12 (by decide) w1358 kd187 (ss_lt (by decide)) (lr_187_56 E _) ?_
  refine sv_iload_n (pc := 25) 4 (sv_d k_Mo_ask 16 rfl) rfl rfl ?_
  refine ss_iald (pc := 26) (n := 80) (sv_d k_Mo_ask 17 rfl) kd226 (ss_lt (by decide)) rfl ?_
  refine sv_icmp_le (pc := 27) (tgt := 39) (sv_d k_Mo_ask 18 rfl) (by decide) ?_ ?_
  · refine sv_aload_n (pc := 39) 2 (sv_d k_Mo_ask 24 rfl) rfl rfl ?_
    refine sv_getf (pc := 40) 56 (sv_d k_Mo_ask 25 rfl) cf12 (by decide) w1358 kd187 (ss_lt (by decide)) (lr_187_56 E _) ?_
    refine sv_iload_n (pc := 43) 4 (sv_d k_Mo_ask 26 rfl) rfl rfl ?_
    refine ss_iald (pc := 44) (n := 80) (sv_d k_Mo_ask 27 rfl) kd226 (ss_lt (by decide)) rfl ?_
    exact sv_loc [2, 3, 4, 1, 0] rfl (V_Mo_ask_b45 E d x1 x2 v1 v2 (s.1 226 x2.toNatClampNeg) s)
  · refine sv_aload_n (pc := 30) 2 (sv_d k_Mo_ask 19 rfl) rfl rfl ?_
    refine sv_getf (pc := 31) 56 (sv_d k_Mo_ask 20 rfl) cf12 (by decide) w1358 kd187 (ss_lt (by decide)) (lr_187_56 E _) ?_
    refine sv_iload_n (pc := 34) 3 (sv_d k_Mo_ask 21 rfl) rfl rfl ?_
    refine ss_iald (pc := 35) (n := 80) (sv_d k_Mo_ask 22 rfl) kd226 (ss_lt (by decide)) rfl ?_
    refine sv_goto (pc := 36) (tgt := 45) (sv_d k_Mo_ask 23 rfl) (by decide) ?_
    exact sv_loc [2, 3, 4, 1, 0] rfl (V_Mo_ask_b45 E d x1 x2 v1 v2 (s.1 226 x1.toNatClampNeg) s)
/-! Mo_areSame -/
abbrev m_Mo_areSame : sv_M := (yX12_areSame, cX12_areSame, 5, (some .boolean))
def t_Mo_areSame : List (Nat × Instr × Nat) := [(0, .aload_n 0, 1), (1, .getfield 169, 3), (4, .iload_n 1, 1), (5, .iaload, 1), (6, .istore_n 3, 1), (7, .aload_n 0, 1), (8, .getfield 169, 3), (11, .iload_n 2, 1), (12, .iaload, 1), (13, .istore 4, 2), (15, .aload_n 0, 1), (16, .getfield 118, 3), (19, .iload_n 3, 1), (20, .iaload, 1), (21, .aload_n 0, 1), (22, .getfield 118, 3), (25, .iload 4, 2), (27, .iaload, 1), (28, .if_icmp .ne 34, 3), (31, .aload_n 0, 1), (32, .getfield 121, 3), (35, .iload_n 3, 1), (36, .iaload, 1), (37, .aload_n 0, 1), (38, .getfield 121, 3), (41, .iload 4, 2), (43, .iaload, 1), (44, .if_icmp .ne 18, 3), (47, .aload_n 0, 1), (48, .getfield 172, 3), (51, .iload_n 1, 1), (52, .iaload, 1), (53, .aload_n 0, 1), (54, .getfield 172, 3), (57, .iload_n 2, 1), (58, .iaload, 1), (59, .if_icmp .eq 5, 3), (62, .iconst 0, 1), (63, .ireturn, 1), (64, .aload_n 0, 1), (65, .iload_n 1, 1), (66, .iload_n 2, 1), (67, .invokevirtual 409, 3), (70, .aload_n 0, 1), (71, .getfield 72, 3), (74, .ireturn, 1)]
theorem k_Mo_areSame : sv_tk m_Mo_areSame.2.1 t_Mo_areSame := by decide +kernel
theorem g_Mo_areSame : sv_G m_Mo_areSame 2 := ⟨by decide +kernel, sv_in 1791 (by decide +kernel) rfl, sv_in 103 (by decide +kernel) rfl, ⟨by decide, by decide⟩, by decide +kernel, by decide⟩
theorem in_Mo_areSame : Cond.instanceMethod m_Mo_areSame.1 ∈ sv_T := sv_in 1790 (by decide +kernel) rfl
theorem se_Mo_areSame : Cond.selects m_Mo_areSame.1.cls m_Mo_areSame.1 m_Mo_areSame.1 ∈ sv_T := sv_in 71 (by decide +kernel) rfl
def F_Mo_areSame (x1 : Int32) (x2 : Int32) (s : sv_S) : Option (Int32 × sv_S) :=
  if sv_ib x1 80 = true then
    ss_let (s.1 222 x1.toNatClampNeg) fun v1 =>
    if sv_ib x2 80 = true then
      ss_let (s.1 222 x2.toNatClampNeg) fun v2 =>
      if sv_ib v1 60 = true then
        if sv_ib v2 60 = true then
          if (s.1 207 v1.toNatClampNeg) = (s.1 207 v2.toNatClampNeg) then
            if sv_ib v1 60 = true then
              if sv_ib v2 60 = true then
                if (s.1 208 v1.toNatClampNeg) = (s.1 208 v2.toNatClampNeg) then
                  if sv_ib x1 80 = true then
                    if sv_ib x2 80 = true then
                      if (s.1 223 x1.toNatClampNeg) = (s.1 223 x2.toNatClampNeg) then
                        (F_Mo_ask x1 x2 s).bind fun r3 =>
                        if sv_bl (r3.1 187 20) = true then some (r3.1 187 20, r3) else none
                      else
                      some ((0 : Int32), s)
                    else none
                  else none
                else
                some ((0 : Int32), s)
              else none
            else none
          else
          some ((0 : Int32), s)
        else none
      else none
    else none
  else none
theorem V_Mo_areSame (E : sv_E) (d : Nat) (x1 : Int32) (x2 : Int32) (s : sv_S) : sv_V E m_Mo_areSame (d + 9) ss_i 0 (lv_args 0 [sv_r E 187, .int x1, .int x2]) [] (ss_e s) (F_Mo_areSame x1 x2 s) := by
  show sv_V E m_Mo_areSame (d + 9) ss_i 0 [(0, sv_r E 187), (1, .int x1), (2, .int x2)] [] (ss_e s) _
  unfold F_Mo_areSame
  refine sv_aload_n (pc := 0) 0 (sv_d k_Mo_areSame 0 rfl) rfl rfl ?_
  refine sv_getf (pc := 1) 52 (sv_d k_Mo_areSame 1 rfl) cf12 (by decide) w1354 kd187 (ss_lt (by decide)) (lr_187_52 E _) ?_
  refine sv_iload_n (pc := 4) 1 (sv_d k_Mo_areSame 2 rfl) rfl rfl ?_
  refine ss_iald (pc := 5) (n := 80) (sv_d k_Mo_areSame 3 rfl) kd222 (ss_lt (by decide)) rfl ?_
  refine ss_top (fun v1 e_v1 => ?_)
  refine sv_istore_n (pc := 6) (lv' := [(3, .int v1), (0, sv_r E 187), (1, .int x1), (2, .int x2)]) (sv_d k_Mo_areSame 4 rfl) rfl (by decide) rfl ?_
  refine sv_aload_n (pc := 7) 1 (sv_d k_Mo_areSame 5 rfl) rfl rfl ?_
  refine sv_getf (pc := 8) 52 (sv_d k_Mo_areSame 6 rfl) cf12 (by decide) w1354 kd187 (ss_lt (by decide)) (lr_187_52 E _) ?_
  refine sv_iload_n (pc := 11) 3 (sv_d k_Mo_areSame 7 rfl) rfl rfl ?_
  refine ss_iald (pc := 12) (n := 80) (sv_d k_Mo_areSame 8 rfl) kd222 (ss_lt (by decide)) rfl ?_
  refine ss_top (fun v2 e_v2 => ?_)
  refine sv_istore (pc := 13) (lv' := [(4, .int v2), (3, .int v1), (0, sv_r E 187), (1, .int x1), (2, .int x2)]) (sv_d k_Mo_areSame 9 rfl) (by decide) rfl ?_
  refine sv_aload_n (pc := 15) 2 (sv_d k_Mo_areSame 10 rfl) rfl rfl ?_
  refine sv_getf (pc := 16) 35 (sv_d k_Mo_areSame 11 rfl) cf12 (by decide) w1337 kd187 (ss_lt (by decide)) (lr_187_35 E _) ?_
  refine sv_iload_n (pc := 19) 1 (sv_d k_Mo_areSame 12 rfl) rfl rfl ?_
  refine ss_iald (pc := 20) (n := 60) (sv_d k_Mo_areSame 13 rfl) kd207 (ss_lt (by decide)) rfl ?_
  refine sv_aload_n (pc := 21) 2 (sv_d k_Mo_areSame 14 rfl) rfl rfl ?_
  refine sv_getf (pc := 22) 35 (sv_d k_Mo_areSame 15 rfl) cf12 (by decide) w1337 kd187 (ss_lt (by decide)) (lr_187_35 E _) ?_
  refine sv_iload (pc := 25) 0 (sv_d k_Mo_areSame 16 rfl) rfl ?_
  refine ss_iald (pc := 27) (n := 60) (sv_d k_Mo_areSame 17 rfl) kd207 (ss_lt (by decide)) rfl ?_
  refine sv_icmp_ne (pc := 28) (tgt := 62) (sv_d k_Mo_areSame 18 rfl) (by decide) ?_ ?_
  · refine sv_iconst (pc := 62) (v := (0 : Int32)) (sv_d k_Mo_areSame 37 rfl) (by decide) ?_
    exact sv_ret (pc := 63) (sv_d k_Mo_areSame 38 rfl) ⟨_, rfl, rfl⟩ rfl
  · refine sv_aload_n (pc := 31) 2 (sv_d k_Mo_areSame 19 rfl) rfl rfl ?_
    refine sv_getf (pc := 32) 36 (sv_d k_Mo_areSame 20 rfl) cf12 (by decide) w1338 kd187 (ss_lt (by decide)) (lr_187_36 E _) ?_
    refine sv_iload_n (pc := 35) 1 (sv_d k_Mo_areSame 21 rfl) rfl rfl ?_
    refine ss_iald (pc := 36) (n := 60) (sv_d k_Mo_areSame 22 rfl) kd208 (ss_lt (by decide)) rfl ?_
    refine sv_aload_n (pc := 37) 2 (sv_d k_Mo_areSame 23 rfl) rfl rfl ?_
    refine sv_getf (pc := 38) 36 (sv_d k_Mo_areSame 24 rfl) cf12 (by decide) w1338 kd187 (ss_lt (by decide)) (lr_187_36 E _) ?_
    refine sv_iload (pc := 41) 0 (sv_d k_Mo_areSame 25 rfl) rfl ?_
    refine ss_iald (pc := 43) (n := 60) (sv_d k_Mo_areSame 26 rfl) kd208 (ss_lt (by decide)) rfl ?_
    refine sv_icmp_ne (pc := 44) (tgt := 62) (sv_d k_Mo_areSame 27 rfl) (by decide) ?_ ?_
    · refine sv_iconst (pc := 62) (v := (0 : Int32)) (sv_d k_Mo_areSame 37 rfl) (by decide) ?_
      exact sv_ret (pc := 63) (sv_d k_Mo_areSame 38 rfl) ⟨_, rfl, rfl⟩ rfl
    · refine sv_aload_n (pc := 47) 2 (sv_d k_Mo_areSame 28 rfl) rfl rfl ?_
      refine sv_getf (pc := 48) 53 (sv_d k_Mo_areSame 29 rfl) cf12 (by decide) w1355 kd187 (ss_lt (by decide)) (lr_187_53 E _) ?_
      refine sv_iload_n (pc := 51) 3 (sv_d k_Mo_areSame 30 rfl) rfl rfl ?_
      refine ss_iald (pc := 52) (n := 80) (sv_d k_Mo_areSame 31 rfl) kd223 (ss_lt (by decide)) rfl ?_
      refine sv_aload_n (pc := 53) 2 (sv_d k_Mo_areSame 32 rfl) rfl rfl ?_
      refine sv_getf (pc := 54) 53 (sv_d k_Mo_areSame 33 rfl) cf12 (by decide) w1355 kd187 (ss_lt (by decide)) (lr_187_53 E _) ?_
      refine sv_iload_n (pc := 57) 4 (sv_d k_Mo_areSame 34 rfl) rfl rfl ?_
      refine ss_iald (pc := 58) (n := 80) (sv_d k_Mo_areSame 35 rfl) kd223 (ss_lt (by decide)) rfl ?_
      refine sv_icmp_eq (pc := 59) (tgt := 64) (sv_d k_Mo_areSame 36 rfl) (by decide) ?_ ?_
      · refine sv_aload_n (pc := 64) 2 (sv_d k_Mo_areSame 39 rfl) rfl rfl ?_
        refine sv_iload_n (pc := 65) 3 (sv_d k_Mo_areSame 40 rfl) rfl rfl ?_
        refine sv_iload_n (pc := 66) 4 (sv_d k_Mo_areSame 41 rfl) rfl rfl ?_
        refine sv_callV (pc := 67) (ψ := ss_v) (As := [.int x1, .int x2]) (rest := []) (c := 187) (sv_d k_Mo_areSame 42 rfl) g_Mo_ask w1792 in_Mo_ask se_Mo_ask cf12 kd187 (ss_lt (by decide)) rfl (Nat.le_of_ble_eq_true rfl) (V_Mo_ask E (d + 0) x1 x2 s) (Nat.le_of_ble_eq_true rfl) rfl (fun r3 => ?_)
        show sv_V E _ _ _ 70 _ [] (ss_e r3) _
        refine sv_aload_n (pc := 70) 2 (sv_d k_Mo_areSame 43 rfl) rfl rfl ?_
        refine sv_getf (pc := 71) 20 (sv_d k_Mo_areSame 44 rfl) cf12 (by decide) w1322 kd187 (ss_lt (by decide)) rfl ?_
        exact ss_grd (fun bb4 => sv_ret (pc := 74) (sv_d k_Mo_areSame 45 rfl) ⟨_, rfl, sv_bln bb4⟩ rfl)
      · refine sv_iconst (pc := 62) (v := (0 : Int32)) (sv_d k_Mo_areSame 37 rfl) (by decide) ?_
        exact sv_ret (pc := 63) (sv_d k_Mo_areSame 38 rfl) ⟨_, rfl, rfl⟩ rfl
/-! Mo_areUnlike -/
abbrev m_Mo_areUnlike : sv_M := (yX12_areUnlike, cX12_areUnlike, 3, (some .boolean))
def t_Mo_areUnlike : List (Nat × Instr × Nat) := [(0, .aload_n 0, 1), (1, .iload_n 1, 1), (2, .iload_n 2, 1), (3, .invokevirtual 412, 3), (6, .ifCond .eq 48, 3), (9, .aload_n 0, 1), (10, .getfield 178, 3), (13, .iload_n 1, 1), (14, .iaload, 1), (15, .i2l, 1), (16, .aload_n 0, 1), (17, .getfield 175, 3), (20, .iload_n 2, 1), (21, .iaload, 1), (22, .i2l, 1), (23, .lmul, 1), (24, .aload_n 0, 1), (25, .getfield 178, 3), (28, .iload_n 2, 1), (29, .iaload, 1), (30, .i2l, 1), (31, .aload_n 0, 1), (32, .getfield 175, 3), (35, .iload_n 1, 1), (36, .iaload, 1), (37, .i2l, 1), (38, .lmul, 1), (39, .lcmp, 1), (40, .ifCond .eq 14, 3), (43, .aload_n 0, 1), (44, .getfield 75, 3), (47, .ifCond .ne 7, 3), (50, .iconst 1, 1), (51, .goto 4, 3), (54, .iconst 0, 1), (55, .ireturn, 1)]
theorem k_Mo_areUnlike : sv_tk m_Mo_areUnlike.2.1 t_Mo_areUnlike := by decide +kernel
theorem g_Mo_areUnlike : sv_G m_Mo_areUnlike 2 := ⟨by decide +kernel, sv_in 1803 (by decide +kernel) rfl, sv_in 103 (by decide +kernel) rfl, ⟨by decide, by decide⟩, by decide +kernel, by decide⟩
theorem in_Mo_areUnlike : Cond.instanceMethod m_Mo_areUnlike.1 ∈ sv_T := sv_in 1802 (by decide +kernel) rfl
theorem se_Mo_areUnlike : Cond.selects m_Mo_areUnlike.1.cls m_Mo_areUnlike.1 m_Mo_areUnlike.1 ∈ sv_T := sv_in 74 (by decide +kernel) rfl
def F_Mo_areUnlike (x1 : Int32) (x2 : Int32) (s : sv_S) : Option (Int32 × sv_S) :=
  (F_Mo_areSame x1 x2 s).bind fun r1 =>
  if r1.1 = 0 then
    some ((0 : Int32), r1.2)
  else
  if sv_ib x1 80 = true then
    if sv_ib x2 80 = true then
      if sv_ib x2 80 = true then
        if sv_ib x1 80 = true then
          if (lg_cmp (((r1.2.1 225 x1.toNatClampNeg).toInt64) * ((r1.2.1 224 x2.toNatClampNeg).toInt64)) (((r1.2.1 225 x2.toNatClampNeg).toInt64) * ((r1.2.1 224 x1.toNatClampNeg).toInt64))) = 0 then
            some ((0 : Int32), r1.2)
          else
          if (r1.2.1 187 21) = 0 then
            some ((1 : Int32), r1.2)
          else
          some ((0 : Int32), r1.2)
        else none
      else none
    else none
  else none
theorem V_Mo_areUnlike (E : sv_E) (d : Nat) (x1 : Int32) (x2 : Int32) (s : sv_S) : sv_V E m_Mo_areUnlike (d + 10) ss_i 0 (lv_args 0 [sv_r E 187, .int x1, .int x2]) [] (ss_e s) (F_Mo_areUnlike x1 x2 s) := by
  show sv_V E m_Mo_areUnlike (d + 10) ss_i 0 [(0, sv_r E 187), (1, .int x1), (2, .int x2)] [] (ss_e s) _
  unfold F_Mo_areUnlike
  refine sv_aload_n (pc := 0) 0 (sv_d k_Mo_areUnlike 0 rfl) rfl rfl ?_
  refine sv_iload_n (pc := 1) 1 (sv_d k_Mo_areUnlike 1 rfl) rfl rfl ?_
  refine sv_iload_n (pc := 2) 2 (sv_d k_Mo_areUnlike 2 rfl) rfl rfl ?_
  refine sv_callV (pc := 3) (ψ := ss_i) (As := [.int x1, .int x2]) (rest := []) (c := 187) (sv_d k_Mo_areUnlike 3 rfl) g_Mo_areSame w1788 in_Mo_areSame se_Mo_areSame cf12 kd187 (ss_lt (by decide)) rfl (Nat.le_of_ble_eq_true rfl) (V_Mo_areSame E (d + 0) x1 x2 s) (Nat.le_of_ble_eq_true rfl) rfl (fun r1 => ?_)
  show sv_V E _ _ _ 6 _ [.int r1.1] (ss_e r1.2) _
  refine sv_if_eq (pc := 6) (tgt := 54) (sv_d k_Mo_areUnlike 4 rfl) (by decide) ?_ ?_
  · refine sv_iconst (pc := 54) (v := (0 : Int32)) (sv_d k_Mo_areUnlike 34 rfl) (by decide) ?_
    exact sv_ret (pc := 55) (sv_d k_Mo_areUnlike 35 rfl) ⟨_, rfl, rfl⟩ rfl
  · refine sv_aload_n (pc := 9) 0 (sv_d k_Mo_areUnlike 5 rfl) rfl rfl ?_
    refine sv_getf (pc := 10) 55 (sv_d k_Mo_areUnlike 6 rfl) cf12 (by decide) w1357 kd187 (ss_lt (by decide)) (lr_187_55 E _) ?_
    refine sv_iload_n (pc := 13) 1 (sv_d k_Mo_areUnlike 7 rfl) rfl rfl ?_
    refine ss_iald (pc := 14) (n := 80) (sv_d k_Mo_areUnlike 8 rfl) kd225 (ss_lt (by decide)) rfl ?_
    refine sv_i2l (pc := 15) (sv_d k_Mo_areUnlike 9 rfl) ?_
    refine sv_aload_n (pc := 16) 0 (sv_d k_Mo_areUnlike 10 rfl) rfl rfl ?_
    refine sv_getf (pc := 17) 54 (sv_d k_Mo_areUnlike 11 rfl) cf12 (by decide) w1356 kd187 (ss_lt (by decide)) (lr_187_54 E _) ?_
    refine sv_iload_n (pc := 20) 2 (sv_d k_Mo_areUnlike 12 rfl) rfl rfl ?_
    refine ss_iald (pc := 21) (n := 80) (sv_d k_Mo_areUnlike 13 rfl) kd224 (ss_lt (by decide)) rfl ?_
    refine sv_i2l (pc := 22) (sv_d k_Mo_areUnlike 14 rfl) ?_
    refine sv_lmul (pc := 23) (sv_d k_Mo_areUnlike 15 rfl) ?_
    refine sv_aload_n (pc := 24) 0 (sv_d k_Mo_areUnlike 16 rfl) rfl rfl ?_
    refine sv_getf (pc := 25) 55 (sv_d k_Mo_areUnlike 17 rfl) cf12 (by decide) w1357 kd187 (ss_lt (by decide)) (lr_187_55 E _) ?_
    refine sv_iload_n (pc := 28) 2 (sv_d k_Mo_areUnlike 18 rfl) rfl rfl ?_
    refine ss_iald (pc := 29) (n := 80) (sv_d k_Mo_areUnlike 19 rfl) kd225 (ss_lt (by decide)) rfl ?_
    refine sv_i2l (pc := 30) (sv_d k_Mo_areUnlike 20 rfl) ?_
    refine sv_aload_n (pc := 31) 0 (sv_d k_Mo_areUnlike 21 rfl) rfl rfl ?_
    refine sv_getf (pc := 32) 54 (sv_d k_Mo_areUnlike 22 rfl) cf12 (by decide) w1356 kd187 (ss_lt (by decide)) (lr_187_54 E _) ?_
    refine sv_iload_n (pc := 35) 1 (sv_d k_Mo_areUnlike 23 rfl) rfl rfl ?_
    refine ss_iald (pc := 36) (n := 80) (sv_d k_Mo_areUnlike 24 rfl) kd224 (ss_lt (by decide)) rfl ?_
    refine sv_i2l (pc := 37) (sv_d k_Mo_areUnlike 25 rfl) ?_
    refine sv_lmul (pc := 38) (sv_d k_Mo_areUnlike 26 rfl) ?_
    refine sv_lcmp (pc := 39) (sv_d k_Mo_areUnlike 27 rfl) ?_
    refine sv_if_eq (pc := 40) (tgt := 54) (sv_d k_Mo_areUnlike 28 rfl) (by decide) ?_ ?_
    · refine sv_iconst (pc := 54) (v := (0 : Int32)) (sv_d k_Mo_areUnlike 34 rfl) (by decide) ?_
      exact sv_ret (pc := 55) (sv_d k_Mo_areUnlike 35 rfl) ⟨_, rfl, rfl⟩ rfl
    · refine sv_aload_n (pc := 43) 0 (sv_d k_Mo_areUnlike 29 rfl) rfl rfl ?_
      refine sv_getf (pc := 44) 21 (sv_d k_Mo_areUnlike 30 rfl) cf12 (by decide) w1323 kd187 (ss_lt (by decide)) rfl ?_
      refine sv_if_ne (pc := 47) (tgt := 54) (sv_d k_Mo_areUnlike 31 rfl) (by decide) ?_ ?_
      · refine sv_iconst (pc := 54) (v := (0 : Int32)) (sv_d k_Mo_areUnlike 34 rfl) (by decide) ?_
        exact sv_ret (pc := 55) (sv_d k_Mo_areUnlike 35 rfl) ⟨_, rfl, rfl⟩ rfl
      · refine sv_iconst (pc := 50) (v := (1 : Int32)) (sv_d k_Mo_areUnlike 32 rfl) (by decide) ?_
        refine sv_goto (pc := 51) (tgt := 55) (sv_d k_Mo_areUnlike 33 rfl) (by decide) ?_
        exact sv_ret (pc := 55) (sv_d k_Mo_areUnlike 35 rfl) ⟨_, rfl, rfl⟩ rfl
/-! Mo_unlike -/
abbrev m_Mo_unlike : sv_M := (yX12_unlike, cX12_unlike, 6, (some .int))
def t_Mo_unlike : List (Nat × Instr × Nat) := [(0, .aload_n 0, 1), (1, .iload_n 1, 1), (2, .invokevirtual 400, 3), (5, .ifCond .eq 11, 3), (8, .aload_n 0, 1), (9, .iload_n 2, 1), (10, .invokevirtual 400, 3), (13, .ifCond .ne 5, 3), (16, .iconst (-1), 1), (17, .ireturn, 1), (18, .iload_n 1, 1), (19, .iload_n 2, 1), (20, .if_icmp .ne 6, 3), (23, .bipush (-2), 2), (25, .ireturn, 1), (26, .aload_n 0, 1), (27, .iload_n 3, 1), (28, .iconst 0, 1), (29, .iconst 1, 1), (30, .invokevirtual 251, 3), (33, .ifCond .ne 5, 3), (36, .iconst (-1), 1), (37, .ireturn, 1), (38, .iload_n 1, 1), (39, .iload_n 2, 1), (40, .if_icmp .ge 7, 3), (43, .iload_n 1, 1), (44, .goto 4, 3), (47, .iload_n 2, 1), (48, .istore 4, 2), (50, .iload_n 1, 1), (51, .iload_n 2, 1), (52, .if_icmp .ge 7, 3), (55, .iload_n 2, 1), (56, .goto 4, 3), (59, .iload_n 1, 1), (60, .istore 5, 2), (62, .iload_n 3, 1), (63, .ifCond .ne 17, 3), (66, .aload_n 0, 1), (67, .iload 4, 2), (69, .iload 5, 2), (71, .invokevirtual 412, 3), (74, .ifCond .eq 21, 3), (77, .goto 14, 3), (80, .aload_n 0, 1), (81, .iload 4, 2), (83, .iload 5, 2), (85, .invokevirtual 415, 3), (88, .ifCond .eq 7, 3), (91, .iconst 1, 1), (92, .goto 4, 3), (95, .iconst 0, 1), (96, .ireturn, 1)]
theorem k_Mo_unlike : sv_tk m_Mo_unlike.2.1 t_Mo_unlike := by decide +kernel
theorem g_Mo_unlike : sv_G m_Mo_unlike 3 := ⟨by decide +kernel, sv_in 1787 (by decide +kernel) rfl, sv_in 103 (by decide +kernel) rfl, ⟨by decide, by decide⟩, by decide +kernel, by decide⟩
theorem in_Mo_unlike : Cond.instanceMethod m_Mo_unlike.1 ∈ sv_T := sv_in 1785 (by decide +kernel) rfl
theorem se_Mo_unlike : Cond.selects m_Mo_unlike.1.cls m_Mo_unlike.1 m_Mo_unlike.1 ∈ sv_T := sv_in 1786 (by decide +kernel) rfl
def F_Mo_unlike_b60 (x3 : Int32) (x4 : Int32) (t0 : Int32) (s : sv_S) : Option (Int32 × sv_S) :=
  if x3 = 0 then
    (F_Mo_areSame x4 t0 s).bind fun r5 =>
    if r5.1 = 0 then
      some ((0 : Int32), r5.2)
    else
    some ((1 : Int32), r5.2)
  else
  (F_Mo_areUnlike x4 t0 s).bind fun r4 =>
  if r4.1 = 0 then
    some ((0 : Int32), r4.2)
  else
  some ((1 : Int32), r4.2)
theorem V_Mo_unlike_b60 (E : sv_E) (d : Nat) (x3 : Int32) (x4 : Int32) (t0 : Int32) (s : sv_S) : sv_V E m_Mo_unlike (d + 11) ss_i 60 [(0, sv_r E 187), (3, .int x3), (4, .int x4)] [.int t0] (ss_e s) (F_Mo_unlike_b60 x3 x4 t0 s) := by
  unfold F_Mo_unlike_b60
  refine sv_istore (pc := 60) (lv' := [(5, .int t0), (0, sv_r E 187), (3, .int x3), (4, .int x4)]) (sv_d k_Mo_unlike 36 rfl) (by decide) rfl ?_
  refine sv_iload_n (pc := 62) 2 (sv_d k_Mo_unlike 37 rfl) rfl rfl ?_
  refine sv_if_ne (pc := 63) (tgt := 80) (sv_d k_Mo_unlike 38 rfl) (by decide) ?_ ?_
  · refine sv_aload_n (pc := 80) 1 (sv_d k_Mo_unlike 45 rfl) rfl rfl ?_
    refine sv_iload (pc := 81) 3 (sv_d k_Mo_unlike 46 rfl) rfl ?_
    refine sv_iload (pc := 83) 0 (sv_d k_Mo_unlike 47 rfl) rfl ?_
    refine sv_callV (pc := 85) (ψ := ss_i) (As := [.int x4, .int t0]) (rest := []) (c := 187) (sv_d k_Mo_unlike 48 rfl) g_Mo_areUnlike w1800 in_Mo_areUnlike se_Mo_areUnlike cf12 kd187 (ss_lt (by decide)) rfl (Nat.le_of_ble_eq_true rfl) (V_Mo_areUnlike E (d + 0) x4 t0 s) (Nat.le_of_ble_eq_true rfl) rfl (fun r4 => ?_)
    show sv_V E _ _ _ 88 _ [.int r4.1] (ss_e r4.2) _
    refine sv_if_eq (pc := 88) (tgt := 95) (sv_d k_Mo_unlike 49 rfl) (by decide) ?_ ?_
    · refine sv_iconst (pc := 95) (v := (0 : Int32)) (sv_d k_Mo_unlike 52 rfl) (by decide) ?_
      exact sv_ret (pc := 96) (sv_d k_Mo_unlike 53 rfl) ⟨_, rfl, rfl⟩ rfl
    · refine sv_iconst (pc := 91) (v := (1 : Int32)) (sv_d k_Mo_unlike 50 rfl) (by decide) ?_
      refine sv_goto (pc := 92) (tgt := 96) (sv_d k_Mo_unlike 51 rfl) (by decide) ?_
      exact sv_ret (pc := 96) (sv_d k_Mo_unlike 53 rfl) ⟨_, rfl, rfl⟩ rfl
  · refine sv_aload_n (pc := 66) 1 (sv_d k_Mo_unlike 39 rfl) rfl rfl ?_
    refine sv_iload (pc := 67) 3 (sv_d k_Mo_unlike 40 rfl) rfl ?_
    refine sv_iload (pc := 69) 0 (sv_d k_Mo_unlike 41 rfl) rfl ?_
    refine sv_callV (pc := 71) (ψ := ss_i) (As := [.int x4, .int t0]) (rest := []) (c := 187) (sv_d k_Mo_unlike 42 rfl) g_Mo_areSame w1788 in_Mo_areSame se_Mo_areSame cf12 kd187 (ss_lt (by decide)) rfl (Nat.le_of_ble_eq_true rfl) (V_Mo_areSame E (d + 1) x4 t0 s) (Nat.le_of_ble_eq_true rfl) rfl (fun r5 => ?_)
    show sv_V E _ _ _ 74 _ [.int r5.1] (ss_e r5.2) _
    refine sv_if_eq (pc := 74) (tgt := 95) (sv_d k_Mo_unlike 43 rfl) (by decide) ?_ ?_
    · refine sv_iconst (pc := 95) (v := (0 : Int32)) (sv_d k_Mo_unlike 52 rfl) (by decide) ?_
      exact sv_ret (pc := 96) (sv_d k_Mo_unlike 53 rfl) ⟨_, rfl, rfl⟩ rfl
    · refine sv_goto (pc := 77) (tgt := 91) (sv_d k_Mo_unlike 44 rfl) (by decide) ?_
      refine sv_iconst (pc := 91) (v := (1 : Int32)) (sv_d k_Mo_unlike 50 rfl) (by decide) ?_
      refine sv_goto (pc := 92) (tgt := 96) (sv_d k_Mo_unlike 51 rfl) (by decide) ?_
      exact sv_ret (pc := 96) (sv_d k_Mo_unlike 53 rfl) ⟨_, rfl, rfl⟩ rfl
def F_Mo_unlike_b48 (x1 : Int32) (x2 : Int32) (x3 : Int32) (t0 : Int32) (s : sv_S) : Option (Int32 × sv_S) :=
  if x2 ≤ x1 then
    F_Mo_unlike_b60 x3 t0 x1 s
  else
  F_Mo_unlike_b60 x3 t0 x2 s
theorem V_Mo_unlike_b48 (E : sv_E) (d : Nat) (x1 : Int32) (x2 : Int32) (x3 : Int32) (t0 : Int32) (s : sv_S) : sv_V E m_Mo_unlike (d + 11) ss_i 48 [(0, sv_r E 187), (1, .int x1), (2, .int x2), (3, .int x3)] [.int t0] (ss_e s) (F_Mo_unlike_b48 x1 x2 x3 t0 s) := by
  unfold F_Mo_unlike_b48
  refine sv_istore (pc := 48) (lv' := [(4, .int t0), (0, sv_r E 187), (1, .int x1), (2, .int x2), (3, .int x3)]) (sv_d k_Mo_unlike 29 rfl) (by decide) rfl ?_
  refine sv_iload_n (pc := 50) 2 (sv_d k_Mo_unlike 30 rfl) rfl rfl ?_
  refine sv_iload_n (pc := 51) 3 (sv_d k_Mo_unlike 31 rfl) rfl rfl ?_
  refine sv_icmp_ge (pc := 52) (tgt := 59) (sv_d k_Mo_unlike 32 rfl) (by decide) ?_ ?_
  · refine sv_iload_n (pc := 59) 2 (sv_d k_Mo_unlike 35 rfl) rfl rfl ?_
    exact sv_loc [1, 4, 0] rfl (V_Mo_unlike_b60 E d x3 t0 x1 s)
  · refine sv_iload_n (pc := 55) 3 (sv_d k_Mo_unlike 33 rfl) rfl rfl ?_
    refine sv_goto (pc := 56) (tgt := 60) (sv_d k_Mo_unlike 34 rfl) (by decide) ?_
    exact sv_loc [1, 4, 0] rfl (V_Mo_unlike_b60 E d x3 t0 x2 s)
def F_Mo_unlike (x1 : Int32) (x2 : Int32) (x3 : Int32) (s : sv_S) : Option (Int32 × sv_S) :=
  (F_Mo_isTruck x1 s).bind fun r1 =>
  if r1 = 0 then
    some ((-1 : Int32), s)
  else
  (F_Mo_isTruck x2 s).bind fun r2 =>
  if r2 = 0 then
    some ((-1 : Int32), s)
  else
  if x1 = x2 then
    some ((-2 : Int32), s)
  else
  (F_Mo_in x3 (0 : Int32) (1 : Int32) s).bind fun r3 =>
  if r3 = 0 then
    some ((-1 : Int32), s)
  else
  if x2 ≤ x1 then
    F_Mo_unlike_b48 x1 x2 x3 x2 s
  else
  F_Mo_unlike_b48 x1 x2 x3 x1 s
theorem V_Mo_unlike (E : sv_E) (d : Nat) (x1 : Int32) (x2 : Int32) (x3 : Int32) (s : sv_S) : sv_V E m_Mo_unlike (d + 11) ss_i 0 (lv_args 0 [sv_r E 187, .int x1, .int x2, .int x3]) [] (ss_e s) (F_Mo_unlike x1 x2 x3 s) := by
  show sv_V E m_Mo_unlike (d + 11) ss_i 0 [(0, sv_r E 187), (1, .int x1), (2, .int x2), (3, .int x3)] [] (ss_e s) _
  unfold F_Mo_unlike
  refine sv_aload_n (pc := 0) 0 (sv_d k_Mo_unlike 0 rfl) rfl rfl ?_
  refine sv_iload_n (pc := 1) 1 (sv_d k_Mo_unlike 1 rfl) rfl rfl ?_
  refine sv_callV (pc := 2) (ψ := (ss_pi s)) (As := [.int x1]) (rest := []) (c := 187) (sv_d k_Mo_unlike 2 rfl) g_Mo_isTruck w1776 in_Mo_isTruck se_Mo_isTruck cf12 kd187 (ss_lt (by decide)) rfl (Nat.le_of_ble_eq_true rfl) (V_Mo_isTruck E (d + 9) x1 s) (Nat.le_of_ble_eq_true rfl) rfl (fun r1 => ?_)
  show sv_V E _ _ _ 5 _ [.int r1] (ss_e s) _
  refine sv_if_eq (pc := 5) (tgt := 16) (sv_d k_Mo_unlike 3 rfl) (by decide) ?_ ?_
  · refine sv_iconst (pc := 16) (v := (-1 : Int32)) (sv_d k_Mo_unlike 8 rfl) (by decide) ?_
    exact sv_ret (pc := 17) (sv_d k_Mo_unlike 9 rfl) ⟨_, rfl, rfl⟩ rfl
  · refine sv_aload_n (pc := 8) 0 (sv_d k_Mo_unlike 4 rfl) rfl rfl ?_
    refine sv_iload_n (pc := 9) 2 (sv_d k_Mo_unlike 5 rfl) rfl rfl ?_
    refine sv_callV (pc := 10) (ψ := (ss_pi s)) (As := [.int x2]) (rest := []) (c := 187) (sv_d k_Mo_unlike 6 rfl) g_Mo_isTruck w1776 in_Mo_isTruck se_Mo_isTruck cf12 kd187 (ss_lt (by decide)) rfl (Nat.le_of_ble_eq_true rfl) (V_Mo_isTruck E (d + 9) x2 s) (Nat.le_of_ble_eq_true rfl) rfl (fun r2 => ?_)
    show sv_V E _ _ _ 13 _ [.int r2] (ss_e s) _
    refine sv_if_ne (pc := 13) (tgt := 18) (sv_d k_Mo_unlike 7 rfl) (by decide) ?_ ?_
    · refine sv_iload_n (pc := 18) 1 (sv_d k_Mo_unlike 10 rfl) rfl rfl ?_
      refine sv_iload_n (pc := 19) 2 (sv_d k_Mo_unlike 11 rfl) rfl rfl ?_
      refine sv_icmp_ne (pc := 20) (tgt := 26) (sv_d k_Mo_unlike 12 rfl) (by decide) ?_ ?_
      · refine sv_aload_n (pc := 26) 0 (sv_d k_Mo_unlike 15 rfl) rfl rfl ?_
        refine sv_iload_n (pc := 27) 3 (sv_d k_Mo_unlike 16 rfl) rfl rfl ?_
        refine sv_iconst (pc := 28) (v := (0 : Int32)) (sv_d k_Mo_unlike 17 rfl) (by decide) ?_
        refine sv_iconst (pc := 29) (v := (1 : Int32)) (sv_d k_Mo_unlike 18 rfl) (by decide) ?_
        refine sv_callV (pc := 30) (ψ := (ss_pi s)) (As := [.int x3, .int (0 : Int32), .int (1 : Int32)]) (rest := []) (c := 187) (sv_d k_Mo_unlike 19 rfl) g_Mo_in w1545 in_Mo_in se_Mo_in cf12 kd187 (ss_lt (by decide)) rfl (Nat.le_of_ble_eq_true rfl) (V_Mo_in E (d + 10) x3 (0 : Int32) (1 : Int32) s) (Nat.le_of_ble_eq_true rfl) rfl (fun r3 => ?_)
        show sv_V E _ _ _ 33 _ [.int r3] (ss_e s) _
        refine sv_if_ne (pc := 33) (tgt := 38) (sv_d k_Mo_unlike 20 rfl) (by decide) ?_ ?_
        · refine sv_iload_n (pc := 38) 1 (sv_d k_Mo_unlike 23 rfl) rfl rfl ?_
          refine sv_iload_n (pc := 39) 2 (sv_d k_Mo_unlike 24 rfl) rfl rfl ?_
          refine sv_icmp_ge (pc := 40) (tgt := 47) (sv_d k_Mo_unlike 25 rfl) (by decide) ?_ ?_
          · refine sv_iload_n (pc := 47) 2 (sv_d k_Mo_unlike 28 rfl) rfl rfl ?_
            exact sv_loc [0, 1, 2, 3] rfl (V_Mo_unlike_b48 E d x1 x2 x3 x2 s)
          · refine sv_iload_n (pc := 43) 1 (sv_d k_Mo_unlike 26 rfl) rfl rfl ?_
            refine sv_goto (pc := 44) (tgt := 48) (sv_d k_Mo_unlike 27 rfl) (by decide) ?_
            exact sv_loc [0, 1, 2, 3] rfl (V_Mo_unlike_b48 E d x1 x2 x3 x1 s)
        · refine sv_iconst (pc := 36) (v := (-1 : Int32)) (sv_d k_Mo_unlike 21 rfl) (by decide) ?_
          exact sv_ret (pc := 37) (sv_d k_Mo_unlike 22 rfl) ⟨_, rfl, rfl⟩ rfl
      · refine sv_bipush (pc := 23) (v := (-2 : Int32)) (sv_d k_Mo_unlike 13 rfl) (by decide) ?_
        exact sv_ret (pc := 25) (sv_d k_Mo_unlike 14 rfl) ⟨_, rfl, rfl⟩ rfl
    · refine sv_iconst (pc := 16) (v := (-1 : Int32)) (sv_d k_Mo_unlike 8 rfl) (by decide) ?_
      exact sv_ret (pc := 17) (sv_d k_Mo_unlike 9 rfl) ⟨_, rfl, rfl⟩ rfl
/-! Mo_unlikes -/
abbrev m_Mo_unlikes : sv_M := (yX12_unlikes, cX12_unlikes, 5, (some .int))
def t_Mo_unlikes : List (Nat × Instr × Nat) := [(0, .aload_n 0, 1), (1, .iload_n 1, 1), (2, .iconst 0, 1), (3, .iconst 2, 1), (4, .invokevirtual 251, 3), (7, .ifCond .ne 5, 3), (10, .iconst (-1), 1), (11, .ireturn, 1), (12, .iconst 0, 1), (13, .istore_n 2, 1), (14, .iconst 0, 1), (15, .istore_n 3, 1), (16, .iload_n 3, 1), (17, .aload_n 0, 1), (18, .getfield 163, 3), (21, .if_icmp .ge 61, 3), (24, .iload_n 3, 1), (25, .iconst 1, 1), (26, .iadd, 1), (27, .istore 4, 2), (29, .iload 4, 2), (31, .aload_n 0, 1), (32, .getfield 163, 3), (35, .if_icmp .ge 41, 3), (38, .aload_n 0, 1), (39, .iload_n 3, 1), (40, .iload 4, 2), (42, .invokevirtual 415, 3), (45, .ifCond .ne 6, 3), (48, .goto 22, 3), (51, .iload_n 1, 1), (52, .ifCond .le 15, 3), (55, .iload_n 1, 1), (56, .iconst 1, 1), (57, .if_icmp .ne 7, 3), (60, .iload_n 3, 1), (61, .goto 5, 3), (64, .iload 4, 2), (66, .ireturn, 1), (67, .iinc 2 1, 3), (70, .iinc 4 1, 3), (73, .goto (-44), 3), (76, .iinc 3 1, 3), (79, .goto (-63), 3), (82, .iload_n 1, 1), (83, .ifCond .ne 7, 3), (86, .iload_n 2, 1), (87, .goto 4, 3), (90, .iconst (-1), 1), (91, .ireturn, 1)]
theorem k_Mo_unlikes : sv_tk m_Mo_unlikes.2.1 t_Mo_unlikes := by decide +kernel
theorem g_Mo_unlikes : sv_G m_Mo_unlikes 1 := ⟨by decide +kernel, sv_in 1807 (by decide +kernel) rfl, sv_in 103 (by decide +kernel) rfl, ⟨by decide, by decide⟩, by decide +kernel, by decide⟩
theorem in_Mo_unlikes : Cond.instanceMethod m_Mo_unlikes.1 ∈ sv_T := sv_in 1805 (by decide +kernel) rfl
theorem se_Mo_unlikes : Cond.selects m_Mo_unlikes.1.cls m_Mo_unlikes.1 m_Mo_unlikes.1 ∈ sv_T := sv_in 1806 (by decide +kernel) rfl
def F_Mo_unlikes_b70 (kc16 : Int32 → Int32 → Int32 → sv_S → Option (Int32 × sv_S)) (kc29 : Int32 → Int32 → Int32 → Int32 → sv_S → Option (Int32 × sv_S)) (x1 : Int32) (x2 : Int32) (x3 : Int32) (x4 : Int32) (s : sv_S) : Option (Int32 × sv_S) :=
  ss_let (x4 + (1 : Int32)) fun v6 =>
  kc29 x1 x2 x3 v6 s
theorem V_Mo_unlikes_b70 (E : sv_E) (d : Nat) (kc16 : Int32 → Int32 → Int32 → sv_S → Option (Int32 × sv_S)) (kc29 : Int32 → Int32 → Int32 → Int32 → sv_S → Option (Int32 × sv_S)) (hc16 : ∀ (x1 : Int32) (x2 : Int32) (x3 : Int32) (s : sv_S), sv_V E m_Mo_unlikes (d + 11) ss_i 16 [(0, sv_r E 187), (1, .int x1), (2, .int x2), (3, .int x3)] [] (ss_e s) (kc16 x1 x2 x3 s)) (hc29 : ∀ (x1 : Int32) (x2 : Int32) (x3 : Int32) (x4 : Int32) (s : sv_S), sv_V E m_Mo_unlikes (d + 11) ss_i 29 [(0, sv_r E 187), (1, .int x1), (2, .int x2), (3, .int x3), (4, .int x4)] [] (ss_e s) (kc29 x1 x2 x3 x4 s)) (x1 : Int32) (x2 : Int32) (x3 : Int32) (x4 : Int32) (s : sv_S) : sv_V E m_Mo_unlikes (d + 11) ss_i 70 [(0, sv_r E 187), (1, .int x1), (2, .int x2), (3, .int x3), (4, .int x4)] [] (ss_e s) (F_Mo_unlikes_b70 kc16 kc29 x1 x2 x3 x4 s) := by
  unfold F_Mo_unlikes_b70
  refine ss_letr (fun v6 e_v6 => ?_)
  refine sv_iinc (pc := 70) (v := v6) (lv' := [(4, .int v6), (0, sv_r E 187), (1, .int x1), (2, .int x2), (3, .int x3)]) (sv_d k_Mo_unlikes 40 rfl) (n := 4) rfl (by rw [e_v6]; rfl) (by decide) rfl ?_
  refine sv_goto (pc := 73) (tgt := 29) (sv_d k_Mo_unlikes 41 rfl) (by decide) ?_
  exact sv_loc [1, 2, 3, 4, 0] rfl (hc29 x1 x2 x3 v6 s)
def F_Mo_unlikes_b29 (kc16 : Int32 → Int32 → Int32 → sv_S → Option (Int32 × sv_S)) : Nat → Int32 → Int32 → Int32 → Int32 → sv_S → Option (Int32 × sv_S)
  | 0 => fun _ _ _ _ _ => none
  | n + 1 => fun x1 x2 x3 x4 s =>
    if (s.1 187 50) ≤ x4 then
      ss_let (x3 + (1 : Int32)) fun v3 =>
      kc16 x1 x2 v3 s
    else
    (F_Mo_areUnlike x3 x4 s).bind fun r4 =>
    if r4.1 = 0 then
      F_Mo_unlikes_b70 kc16 (F_Mo_unlikes_b29 kc16 n) x1 x2 x3 x4 r4.2
    else
    if x1 ≤ 0 then
      ss_let (x2 + (1 : Int32)) fun v5 =>
      F_Mo_unlikes_b70 kc16 (F_Mo_unlikes_b29 kc16 n) x1 v5 x3 x4 r4.2
    else
    if x1 = (1 : Int32) then
      some (x3, r4.2)
    else
    some (x4, r4.2)
theorem V_Mo_unlikes_b29 (E : sv_E) (d : Nat) (kc16 : Int32 → Int32 → Int32 → sv_S → Option (Int32 × sv_S)) (hc16 : ∀ (x1 : Int32) (x2 : Int32) (x3 : Int32) (s : sv_S), sv_V E m_Mo_unlikes (d + 11) ss_i 16 [(0, sv_r E 187), (1, .int x1), (2, .int x2), (3, .int x3)] [] (ss_e s) (kc16 x1 x2 x3 s)) : ∀ (n : Nat) (x1 : Int32) (x2 : Int32) (x3 : Int32) (x4 : Int32) (s : sv_S), sv_V E m_Mo_unlikes (d + 11) ss_i 29 [(0, sv_r E 187), (1, .int x1), (2, .int x2), (3, .int x3), (4, .int x4)] [] (ss_e s) (F_Mo_unlikes_b29 kc16 n x1 x2 x3 x4 s) := by
  intro n
  induction n with
  | zero => intro x1 x2 x3 x4 s; exact sv_none
  | succ n ih =>
    intro x1 x2 x3 x4 s
    unfold F_Mo_unlikes_b29
    refine sv_iload (pc := 29) 4 (sv_d k_Mo_unlikes 20 rfl) rfl ?_
    refine sv_aload_n (pc := 31) 0 (sv_d k_Mo_unlikes 21 rfl) rfl rfl ?_
    refine sv_getf (pc := 32) 50 (sv_d k_Mo_unlikes 22 rfl) cf12 (by decide) w1352 kd187 (ss_lt (by decide)) rfl ?_
    refine sv_icmp_ge (pc := 35) (tgt := 76) (sv_d k_Mo_unlikes 23 rfl) (by decide) ?_ ?_
    · refine ss_letr (fun v3 e_v3 => ?_)
      refine sv_iinc (pc := 76) (v := v3) (lv' := [(3, .int v3), (0, sv_r E 187), (1, .int x1), (2, .int x2), (4, .int x4)]) (sv_d k_Mo_unlikes 42 rfl) (n := 3) rfl (by rw [e_v3]; rfl) (by decide) rfl ?_
      refine sv_goto (pc := 79) (tgt := 16) (sv_d k_Mo_unlikes 43 rfl) (by decide) ?_
      exact sv_loc [1, 2, 3, 0] rfl (hc16 x1 x2 v3 s)
    · refine sv_aload_n (pc := 38) 0 (sv_d k_Mo_unlikes 24 rfl) rfl rfl ?_
      refine sv_iload_n (pc := 39) 3 (sv_d k_Mo_unlikes 25 rfl) rfl rfl ?_
      refine sv_iload (pc := 40) 4 (sv_d k_Mo_unlikes 26 rfl) rfl ?_
      refine sv_callV (pc := 42) (ψ := ss_i) (As := [.int x3, .int x4]) (rest := []) (c := 187) (sv_d k_Mo_unlikes 27 rfl) g_Mo_areUnlike w1800 in_Mo_areUnlike se_Mo_areUnlike cf12 kd187 (ss_lt (by decide)) rfl (Nat.le_of_ble_eq_true rfl) (V_Mo_areUnlike E (d + 0) x3 x4 s) (Nat.le_of_ble_eq_true rfl) rfl (fun r4 => ?_)
      show sv_V E _ _ _ 45 _ [.int r4.1] (ss_e r4.2) _
      refine sv_if_ne (pc := 45) (tgt := 51) (sv_d k_Mo_unlikes 28 rfl) (by decide) ?_ ?_
      · refine sv_iload_n (pc := 51) 1 (sv_d k_Mo_unlikes 30 rfl) rfl rfl ?_
        refine sv_if_le (pc := 52) (tgt := 67) (sv_d k_Mo_unlikes 31 rfl) (by decide) ?_ ?_
        · refine ss_letr (fun v5 e_v5 => ?_)
          refine sv_iinc (pc := 67) (v := v5) (lv' := [(2, .int v5), (0, sv_r E 187), (1, .int x1), (3, .int x3), (4, .int x4)]) (sv_d k_Mo_unlikes 39 rfl) (n := 2) rfl (by rw [e_v5]; rfl) (by decide) rfl ?_
          exact sv_loc [1, 2, 0, 3, 4] rfl (V_Mo_unlikes_b70 E d kc16 (F_Mo_unlikes_b29 kc16 n) hc16 ih x1 v5 x3 x4 r4.2)
        · refine sv_iload_n (pc := 55) 1 (sv_d k_Mo_unlikes 32 rfl) rfl rfl ?_
          refine sv_iconst (pc := 56) (v := (1 : Int32)) (sv_d k_Mo_unlikes 33 rfl) (by decide) ?_
          refine sv_icmp_ne (pc := 57) (tgt := 64) (sv_d k_Mo_unlikes 34 rfl) (by decide) ?_ ?_
          · refine sv_iload (pc := 64) 4 (sv_d k_Mo_unlikes 37 rfl) rfl ?_
            exact sv_ret (pc := 66) (sv_d k_Mo_unlikes 38 rfl) ⟨_, rfl, rfl⟩ rfl
          · refine sv_iload_n (pc := 60) 3 (sv_d k_Mo_unlikes 35 rfl) rfl rfl ?_
            refine sv_goto (pc := 61) (tgt := 66) (sv_d k_Mo_unlikes 36 rfl) (by decide) ?_
            exact sv_ret (pc := 66) (sv_d k_Mo_unlikes 38 rfl) ⟨_, rfl, rfl⟩ rfl
      · refine sv_goto (pc := 48) (tgt := 70) (sv_d k_Mo_unlikes 29 rfl) (by decide) ?_
        exact sv_loc [0, 1, 2, 3, 4] rfl (V_Mo_unlikes_b70 E d kc16 (F_Mo_unlikes_b29 kc16 n) hc16 ih x1 x2 x3 x4 r4.2)
def F_Mo_unlikes_b16 : Nat → Int32 → Int32 → Int32 → sv_S → Option (Int32 × sv_S)
  | 0 => fun _ _ _ _ => none
  | n + 1 => fun x1 x2 x3 s =>
    if (s.1 187 50) ≤ x3 then
      if x1 = 0 then
        some (x2, s)
      else
      some ((-1 : Int32), s)
    else
    ss_let (x3 + (1 : Int32)) fun v2 =>
    F_Mo_unlikes_b29 (F_Mo_unlikes_b16  n) ss_F x1 x2 x3 v2 s
theorem V_Mo_unlikes_b16 (E : sv_E) (d : Nat) : ∀ (n : Nat) (x1 : Int32) (x2 : Int32) (x3 : Int32) (s : sv_S), sv_V E m_Mo_unlikes (d + 11) ss_i 16 [(0, sv_r E 187), (1, .int x1), (2, .int x2), (3, .int x3)] [] (ss_e s) (F_Mo_unlikes_b16 n x1 x2 x3 s) := by
  intro n
  induction n with
  | zero => intro x1 x2 x3 s; exact sv_none
  | succ n ih =>
    intro x1 x2 x3 s
    unfold F_Mo_unlikes_b16
    refine sv_iload_n (pc := 16) 3 (sv_d k_Mo_unlikes 12 rfl) rfl rfl ?_
    refine sv_aload_n (pc := 17) 0 (sv_d k_Mo_unlikes 13 rfl) rfl rfl ?_
    refine sv_getf (pc := 18) 50 (sv_d k_Mo_unlikes 14 rfl) cf12 (by decide) w1352 kd187 (ss_lt (by decide)) rfl ?_
    refine sv_icmp_ge (pc := 21) (tgt := 82) (sv_d k_Mo_unlikes 15 rfl) (by decide) ?_ ?_
    · refine sv_iload_n (pc := 82) 1 (sv_d k_Mo_unlikes 44 rfl) rfl rfl ?_
      refine sv_if_ne (pc := 83) (tgt := 90) (sv_d k_Mo_unlikes 45 rfl) (by decide) ?_ ?_
      · refine sv_iconst (pc := 90) (v := (-1 : Int32)) (sv_d k_Mo_unlikes 48 rfl) (by decide) ?_
        exact sv_ret (pc := 91) (sv_d k_Mo_unlikes 49 rfl) ⟨_, rfl, rfl⟩ rfl
      · refine sv_iload_n (pc := 86) 2 (sv_d k_Mo_unlikes 46 rfl) rfl rfl ?_
        refine sv_goto (pc := 87) (tgt := 91) (sv_d k_Mo_unlikes 47 rfl) (by decide) ?_
        exact sv_ret (pc := 91) (sv_d k_Mo_unlikes 49 rfl) ⟨_, rfl, rfl⟩ rfl
    · refine sv_iload_n (pc := 24) 3 (sv_d k_Mo_unlikes 16 rfl) rfl rfl ?_
      refine sv_iconst (pc := 25) (v := (1 : Int32)) (sv_d k_Mo_unlikes 17 rfl) (by decide) ?_
      refine sv_iadd (pc := 26) (sv_d k_Mo_unlikes 18 rfl) ?_
      refine ss_top (fun v2 e_v2 => ?_)
      refine sv_istore (pc := 27) (lv' := [(4, .int v2), (0, sv_r E 187), (1, .int x1), (2, .int x2), (3, .int x3)]) (sv_d k_Mo_unlikes 19 rfl) (by decide) rfl ?_
      exact sv_loc [1, 2, 3, 4, 0] rfl (V_Mo_unlikes_b29 E d (F_Mo_unlikes_b16  n) ih ss_F x1 x2 x3 v2 s)
def F_Mo_unlikes (x1 : Int32) (s : sv_S) : Option (Int32 × sv_S) :=
  (F_Mo_in x1 (0 : Int32) (2 : Int32) s).bind fun r1 =>
  if r1 = 0 then
    some ((-1 : Int32), s)
  else
  F_Mo_unlikes_b16 ss_F x1 (0 : Int32) (0 : Int32) s
theorem V_Mo_unlikes (E : sv_E) (d : Nat) (x1 : Int32) (s : sv_S) : sv_V E m_Mo_unlikes (d + 11) ss_i 0 (lv_args 0 [sv_r E 187, .int x1]) [] (ss_e s) (F_Mo_unlikes x1 s) := by
  show sv_V E m_Mo_unlikes (d + 11) ss_i 0 [(0, sv_r E 187), (1, .int x1)] [] (ss_e s) _
  unfold F_Mo_unlikes
  refine sv_aload_n (pc := 0) 0 (sv_d k_Mo_unlikes 0 rfl) rfl rfl ?_
  refine sv_iload_n (pc := 1) 1 (sv_d k_Mo_unlikes 1 rfl) rfl rfl ?_
  refine sv_iconst (pc := 2) (v := (0 : Int32)) (sv_d k_Mo_unlikes 2 rfl) (by decide) ?_
  refine sv_iconst (pc := 3) (v := (2 : Int32)) (sv_d k_Mo_unlikes 3 rfl) (by decide) ?_
  refine sv_callV (pc := 4) (ψ := (ss_pi s)) (As := [.int x1, .int (0 : Int32), .int (2 : Int32)]) (rest := []) (c := 187) (sv_d k_Mo_unlikes 4 rfl) g_Mo_in w1545 in_Mo_in se_Mo_in cf12 kd187 (ss_lt (by decide)) rfl (Nat.le_of_ble_eq_true rfl) (V_Mo_in E (d + 10) x1 (0 : Int32) (2 : Int32) s) (Nat.le_of_ble_eq_true rfl) rfl (fun r1 => ?_)
  show sv_V E _ _ _ 7 _ [.int r1] (ss_e s) _
  refine sv_if_ne (pc := 7) (tgt := 12) (sv_d k_Mo_unlikes 5 rfl) (by decide) ?_ ?_
  · refine sv_iconst (pc := 12) (v := (0 : Int32)) (sv_d k_Mo_unlikes 8 rfl) (by decide) ?_
    refine sv_istore_n (pc := 13) (lv' := [(2, .int (0 : Int32)), (0, sv_r E 187), (1, .int x1)]) (sv_d k_Mo_unlikes 9 rfl) rfl (by decide) rfl ?_
    refine sv_iconst (pc := 14) (v := (0 : Int32)) (sv_d k_Mo_unlikes 10 rfl) (by decide) ?_
    refine sv_istore_n (pc := 15) (lv' := [(3, .int (0 : Int32)), (2, .int (0 : Int32)), (0, sv_r E 187), (1, .int x1)]) (sv_d k_Mo_unlikes 11 rfl) rfl (by decide) rfl ?_
    exact sv_loc [2, 3, 1, 0] rfl (V_Mo_unlikes_b16 E d ss_F x1 (0 : Int32) (0 : Int32) s)
  · refine sv_iconst (pc := 10) (v := (-1 : Int32)) (sv_d k_Mo_unlikes 6 rfl) (by decide) ?_
    exact sv_ret (pc := 11) (sv_d k_Mo_unlikes 7 rfl) ⟨_, rfl, rfl⟩ rfl
/-! Mo_suit -/
abbrev m_Mo_suit : sv_M := (yX12_suit, cX12_suit, 10, (some .long))
def t_Mo_suit : List (Nat × Instr × Nat) := [(0, .aload_n 0, 1), (1, .iload_n 1, 1), (2, .invokevirtual 259, 3), (5, .ifCond .ne 7, 3), (8, .ldc2_w 418, 3), (11, .lreturn, 1), (12, .aload_n 0, 1), (13, .iconst (-1), 1), (14, .aload_n 0, 1), (15, .getfield 7, 3), (18, .invokevirtual 358, 3), (21, .aload_n 0, 1), (22, .getfield 65, 3), (25, .iconst 3, 1), (26, .iaload, 1), (27, .istore_n 2, 1), (28, .aload_n 0, 1), (29, .getfield 65, 3), (32, .iconst 4, 1), (33, .iaload, 1), (34, .istore_n 3, 1), (35, .lconst 0, 1), (36, .lstore 4, 2), (38, .iconst 0, 1), (39, .istore 6, 2), (41, .iload 6, 2), (43, .aload_n 0, 1), (44, .getfield 163, 3), (47, .if_icmp .ge 120, 3), (50, .aload_n 0, 1), (51, .getfield 118, 3), (54, .aload_n 0, 1), (55, .getfield 169, 3), (58, .iload 6, 2), (60, .iaload, 1), (61, .iaload, 1), (62, .iload_n 1, 1), (63, .if_icmp .ne 98, 3), (66, .aload_n 0, 1), (67, .getfield 181, 3), (70, .iload 6, 2), (72, .iaload, 1), (73, .aload_n 0, 1), (74, .getfield 7, 3), (77, .iload_n 2, 1), (78, .isub, 1), (79, .if_icmp .ge 6, 3), (82, .goto 79, 3), (85, .aload_n 0, 1), (86, .iload 6, 2), (88, .invokevirtual 403, 3), (91, .istore 7, 2), (93, .iload 7, 2), (95, .ifCond .lt 66, 3), (98, .iload 7, 2), (100, .aload_n 0, 1), (101, .getfield 178, 3), (104, .iload 6, 2), (106, .iaload, 1), (107, .if_icmp .lt 6, 3), (110, .goto 51, 3), (113, .aload_n 0, 1), (114, .getfield 178, 3), (117, .iload 6, 2), (119, .iaload, 1), (120, .iload 7, 2), (122, .isub, 1), (123, .i2l, 1), (124, .lstore 8, 2), (126, .lload 4, 2), (128, .lload 8, 2), (130, .lload 8, 2), (132, .iload_n 3, 1), (133, .i2l, 1), (134, .lmul, 1), (135, .aload_n 0, 1), (136, .getfield 7, 3), (139, .aload_n 0, 1), (140, .getfield 181, 3), (143, .iload 6, 2), (145, .iaload, 1), (146, .isub, 1), (147, .sipush 365, 3), (150, .idiv, 1), (151, .i2l, 1), (152, .lmul, 1), (153, .ldc2_w 420, 3), (156, .ldiv, 1), (157, .ladd, 1), (158, .ladd, 1), (159, .lstore 4, 2), (161, .iinc 6 1, 3), (164, .goto (-123), 3), (167, .lload 4, 2), (169, .lreturn, 1)]
theorem k_Mo_suit : sv_tk m_Mo_suit.2.1 t_Mo_suit := by decide +kernel
theorem g_Mo_suit : sv_G m_Mo_suit 1 := ⟨by decide +kernel, sv_in 1811 (by decide +kernel) rfl, sv_in 103 (by decide +kernel) rfl, ⟨by decide, by decide⟩, by decide +kernel, by decide⟩
theorem in_Mo_suit : Cond.instanceMethod m_Mo_suit.1 ∈ sv_T := sv_in 1809 (by decide +kernel) rfl
theorem se_Mo_suit : Cond.selects m_Mo_suit.1.cls m_Mo_suit.1 m_Mo_suit.1 ∈ sv_T := sv_in 1810 (by decide +kernel) rfl
def F_Mo_suit_b161 (kc41 : Int32 → Int32 → Int32 → Int64 → Int32 → sv_S → Option (Int64 × sv_S)) (x1 : Int32) (x2 : Int32) (x3 : Int32) (y4 : Int64) (x6 : Int32) (s : sv_S) : Option (Int64 × sv_S) :=
  ss_let (x6 + (1 : Int32)) fun v5 =>
  kc41 x1 x2 x3 y4 v5 s
theorem V_Mo_suit_b161 (E : sv_E) (d : Nat) (kc41 : Int32 → Int32 → Int32 → Int64 → Int32 → sv_S → Option (Int64 × sv_S)) (hc41 : ∀ (x1 : Int32) (x2 : Int32) (x3 : Int32) (y4 : Int64) (x6 : Int32) (s : sv_S), sv_V E m_Mo_suit (d + 10) ss_l 41 [(0, sv_r E 187), (1, .int x1), (2, .int x2), (3, .int x3), (4, .long y4), (6, .int x6)] [] (ss_e s) (kc41 x1 x2 x3 y4 x6 s)) (x1 : Int32) (x2 : Int32) (x3 : Int32) (y4 : Int64) (x6 : Int32) (s : sv_S) : sv_V E m_Mo_suit (d + 10) ss_l 161 [(0, sv_r E 187), (1, .int x1), (2, .int x2), (3, .int x3), (4, .long y4), (6, .int x6)] [] (ss_e s) (F_Mo_suit_b161 kc41 x1 x2 x3 y4 x6 s) := by
  unfold F_Mo_suit_b161
  refine ss_letr (fun v5 e_v5 => ?_)
  refine sv_iinc (pc := 161) (v := v5) (lv' := [(6, .int v5), (0, sv_r E 187), (1, .int x1), (2, .int x2), (3, .int x3), (4, .long y4)]) (sv_d k_Mo_suit 91 rfl) (n := 5) rfl (by rw [e_v5]; rfl) (by decide) rfl ?_
  refine sv_goto (pc := 164) (tgt := 41) (sv_d k_Mo_suit 92 rfl) (by decide) ?_
  exact sv_loc [1, 2, 3, 4, 5, 0] rfl (hc41 x1 x2 x3 y4 v5 s)
def F_Mo_suit_b41 : Nat → Int32 → Int32 → Int32 → Int64 → Int32 → sv_S → Option (Int64 × sv_S)
  | 0 => fun _ _ _ _ _ _ => none
  | n + 1 => fun x1 x2 x3 y4 x6 s =>
    if (s.1 187 50) ≤ x6 then
      some (y4, s)
    else
    if sv_ib x6 80 = true then
      if sv_ib (s.1 222 x6.toNatClampNeg) 60 = true then
        if (s.1 207 (s.1 222 x6.toNatClampNeg).toNatClampNeg) = x1 then
          if sv_ib x6 80 = true then
            if ((s.1 187 0) - x2) ≤ (s.1 226 x6.toNatClampNeg) then
              (F_Mo_dueOf x6 s).bind fun r6 =>
              if r6.1 < 0 then
                F_Mo_suit_b161 (F_Mo_suit_b41  n) x1 x2 x3 y4 x6 r6.2
              else
              if sv_ib x6 80 = true then
                if r6.1 < (r6.2.1 225 x6.toNatClampNeg) then
                  if sv_ib x6 80 = true then
                    ss_let (((r6.2.1 225 x6.toNatClampNeg) - r6.1).toInt64) fun v7 =>
                    if sv_ib x6 80 = true then
                      ss_let (y4 + (v7 + (((v7 * x3.toInt64) * ((((r6.2.1 187 0) - (r6.2.1 226 x6.toNatClampNeg)) / (365 : Int32)).toInt64)) / (1000 : Int64)))) fun v8 =>
                      F_Mo_suit_b161 (F_Mo_suit_b41  n) x1 x2 x3 v8 x6 r6.2
                    else none
                  else none
                else
                F_Mo_suit_b161 (F_Mo_suit_b41  n) x1 x2 x3 y4 x6 r6.2
              else none
            else
            F_Mo_suit_b161 (F_Mo_suit_b41  n) x1 x2 x3 y4 x6 s
          else none
        else
        F_Mo_suit_b161 (F_Mo_suit_b41  n) x1 x2 x3 y4 x6 s
      else none
    else none
theorem V_Mo_suit_b41 (E : sv_E) (d : Nat) : ∀ (n : Nat) (x1 : Int32) (x2 : Int32) (x3 : Int32) (y4 : Int64) (x6 : Int32) (s : sv_S), sv_V E m_Mo_suit (d + 10) ss_l 41 [(0, sv_r E 187), (1, .int x1), (2, .int x2), (3, .int x3), (4, .long y4), (6, .int x6)] [] (ss_e s) (F_Mo_suit_b41 n x1 x2 x3 y4 x6 s) := by
  intro n
  induction n with
  | zero => intro x1 x2 x3 y4 x6 s; exact sv_none
  | succ n ih =>
    intro x1 x2 x3 y4 x6 s
    unfold F_Mo_suit_b41
    refine sv_iload (pc := 41) 5 (sv_d k_Mo_suit 25 rfl) rfl ?_
    refine sv_aload_n (pc := 43) 0 (sv_d k_Mo_suit 26 rfl) rfl rfl ?_
    refine sv_getf (pc := 44) 50 (sv_d k_Mo_suit 27 rfl) cf12 (by decide) w1352 kd187 (ss_lt (by decide)) rfl ?_
    refine sv_icmp_ge (pc := 47) (tgt := 167) (sv_d k_Mo_suit 28 rfl) (by decide) ?_ ?_
    · refine sv_lload (pc := 167) 4 (sv_d k_Mo_suit 93 rfl) rfl ?_
      exact sv_ret (pc := 169) (sv_d k_Mo_suit 94 rfl) ⟨_, rfl⟩ rfl
    · refine sv_aload_n (pc := 50) 0 (sv_d k_Mo_suit 29 rfl) rfl rfl ?_
      refine sv_getf (pc := 51) 35 (sv_d k_Mo_suit 30 rfl) cf12 (by decide) w1337 kd187 (ss_lt (by decide)) (lr_187_35 E _) ?_
      refine sv_aload_n (pc := 54) 0 (sv_d k_Mo_suit 31 rfl) rfl rfl ?_
      refine sv_getf (pc := 55) 52 (sv_d k_Mo_suit 32 rfl) cf12 (by decide) w1354 kd187 (ss_lt (by decide)) (lr_187_52 E _) ?_
      refine sv_iload (pc := 58) 5 (sv_d k_Mo_suit 33 rfl) rfl ?_
      refine ss_iald (pc := 60) (n := 80) (sv_d k_Mo_suit 34 rfl) kd222 (ss_lt (by decide)) rfl ?_
      refine ss_iald (pc := 61) (n := 60) (sv_d k_Mo_suit 35 rfl) kd207 (ss_lt (by decide)) rfl ?_
      refine sv_iload_n (pc := 62) 1 (sv_d k_Mo_suit 36 rfl) rfl rfl ?_
      refine sv_icmp_ne (pc := 63) (tgt := 161) (sv_d k_Mo_suit 37 rfl) (by decide) ?_ ?_
      · exact sv_loc [0, 1, 2, 3, 4, 5] rfl (V_Mo_suit_b161 E d (F_Mo_suit_b41  n) ih x1 x2 x3 y4 x6 s)
      · refine sv_aload_n (pc := 66) 0 (sv_d k_Mo_suit 38 rfl) rfl rfl ?_
        refine sv_getf (pc := 67) 56 (sv_d k_Mo_suit 39 rfl) cf12 (by decide) w1358 kd187 (ss_lt (by decide)) (lr_187_56 E _) ?_
        refine sv_iload (pc := 70) 5 (sv_d k_Mo_suit 40 rfl) rfl ?_
        refine ss_iald (pc := 72) (n := 80) (sv_d k_Mo_suit 41 rfl) kd226 (ss_lt (by decide)) rfl ?_
        refine sv_aload_n (pc := 73) 0 (sv_d k_Mo_suit 42 rfl) rfl rfl ?_
        refine sv_getf (pc := 74) 0 (sv_d k_Mo_suit 43 rfl) cf12 (by decide) w1302 kd187 (ss_lt (by decide)) rfl ?_
        refine sv_iload_n (pc := 77) 2 (sv_d k_Mo_suit 44 rfl) rfl rfl ?_
        refine sv_isub (pc := 78) (sv_d k_Mo_suit 45 rfl) ?_
        refine sv_icmp_ge (pc := 79) (tgt := 85) (sv_d k_Mo_suit 46 rfl) (by decide) ?_ ?_
        · refine sv_aload_n (pc := 85) 0 (sv_d k_Mo_suit 48 rfl) rfl rfl ?_
          refine sv_iload (pc := 86) 5 (sv_d k_Mo_suit 49 rfl) rfl ?_
          refine sv_callV (pc := 88) (ψ := ss_i) (As := [.int x6]) (rest := []) (c := 187) (sv_d k_Mo_suit 50 rfl) g_Mo_dueOf w1780 in_Mo_dueOf se_Mo_dueOf cf12 kd187 (ss_lt (by decide)) rfl (Nat.le_of_ble_eq_true rfl) (V_Mo_dueOf E (d + 0) x6 s) (Nat.le_of_ble_eq_true rfl) rfl (fun r6 => ?_)
          show sv_V E _ _ _ 91 _ [.int r6.1] (ss_e r6.2) _
          refine sv_istore (pc := 91) (lv' := [(7, .int r6.1), (0, sv_r E 187), (1, .int x1), (2, .int x2), (3, .int x3), (4, .long y4), (6, .int x6)]) (sv_d k_Mo_suit 51 rfl) (by decide) rfl ?_
          refine sv_iload (pc := 93) 0 (sv_d k_Mo_suit 52 rfl) rfl ?_
          refine sv_if_lt (pc := 95) (tgt := 161) (sv_d k_Mo_suit 53 rfl) (by decide) ?_ ?_
          · exact sv_loc [1, 2, 3, 4, 5, 6] rfl (V_Mo_suit_b161 E d (F_Mo_suit_b41  n) ih x1 x2 x3 y4 x6 r6.2)
          · refine sv_iload (pc := 98) 0 (sv_d k_Mo_suit 54 rfl) rfl ?_
            refine sv_aload_n (pc := 100) 1 (sv_d k_Mo_suit 55 rfl) rfl rfl ?_
            refine sv_getf (pc := 101) 55 (sv_d k_Mo_suit 56 rfl) cf12 (by decide) w1357 kd187 (ss_lt (by decide)) (lr_187_55 E _) ?_
            refine sv_iload (pc := 104) 6 (sv_d k_Mo_suit 57 rfl) rfl ?_
            refine ss_iald (pc := 106) (n := 80) (sv_d k_Mo_suit 58 rfl) kd225 (ss_lt (by decide)) rfl ?_
            refine sv_icmp_lt (pc := 107) (tgt := 113) (sv_d k_Mo_suit 59 rfl) (by decide) ?_ ?_
            · refine sv_aload_n (pc := 113) 1 (sv_d k_Mo_suit 61 rfl) rfl rfl ?_
              refine sv_getf (pc := 114) 55 (sv_d k_Mo_suit 62 rfl) cf12 (by decide) w1357 kd187 (ss_lt (by decide)) (lr_187_55 E _) ?_
              refine sv_iload (pc := 117) 6 (sv_d k_Mo_suit 63 rfl) rfl ?_
              refine ss_iald (pc := 119) (n := 80) (sv_d k_Mo_suit 64 rfl) kd225 (ss_lt (by decide)) rfl ?_
              refine sv_iload (pc := 120) 0 (sv_d k_Mo_suit 65 rfl) rfl ?_
              refine sv_isub (pc := 122) (sv_d k_Mo_suit 66 rfl) ?_
              refine sv_i2l (pc := 123) (sv_d k_Mo_suit 67 rfl) ?_
              refine ss_topL (fun v7 e_v7 => ?_)
              refine sv_lstore (pc := 124) (lv' := [(8, .long v7), (7, .int r6.1), (0, sv_r E 187), (1, .int x1), (2, .int x2), (3, .int x3), (4, .long y4), (6, .int x6)]) (sv_d k_Mo_suit 68 rfl) (by decide) rfl ?_
              refine sv_lload (pc := 126) 6 (sv_d k_Mo_suit 69 rfl) rfl ?_
              refine sv_lload (pc := 128) 0 (sv_d k_Mo_suit 70 rfl) rfl ?_
              refine sv_lload (pc := 130) 0 (sv_d k_Mo_suit 71 rfl) rfl ?_
              refine sv_iload_n (pc := 132) 5 (sv_d k_Mo_suit 72 rfl) rfl rfl ?_
              refine sv_i2l (pc := 133) (sv_d k_Mo_suit 73 rfl) ?_
              refine sv_lmul (pc := 134) (sv_d k_Mo_suit 74 rfl) ?_
              refine sv_aload_n (pc := 135) 2 (sv_d k_Mo_suit 75 rfl) rfl rfl ?_
              refine sv_getf (pc := 136) 0 (sv_d k_Mo_suit 76 rfl) cf12 (by decide) w1302 kd187 (ss_lt (by decide)) rfl ?_
              refine sv_aload_n (pc := 139) 2 (sv_d k_Mo_suit 77 rfl) rfl rfl ?_
              refine sv_getf (pc := 140) 56 (sv_d k_Mo_suit 78 rfl) cf12 (by decide) w1358 kd187 (ss_lt (by decide)) (lr_187_56 E _) ?_
              refine sv_iload (pc := 143) 7 (sv_d k_Mo_suit 79 rfl) rfl ?_
              refine ss_iald (pc := 145) (n := 80) (sv_d k_Mo_suit 80 rfl) kd226 (ss_lt (by decide)) rfl ?_
              refine sv_isub (pc := 146) (sv_d k_Mo_suit 81 rfl) ?_
              refine sv_sipush (pc := 147) (v := (365 : Int32)) (sv_d k_Mo_suit 82 rfl) (by decide) ?_
              refine sv_idivK (pc := 150) (sv_d k_Mo_suit 83 rfl) (by decide) ?_
              refine sv_i2l (pc := 151) (sv_d k_Mo_suit 84 rfl) ?_
              refine sv_lmul (pc := 152) (sv_d k_Mo_suit 85 rfl) ?_
              refine sv_ldc2 (pc := 153) (v := (1000 : Int64)) w1813 (sv_d k_Mo_suit 86 rfl) ?_
              refine sv_ldivK (pc := 156) (sv_d k_Mo_suit 87 rfl) (by decide) ?_
              refine sv_ladd (pc := 157) (sv_d k_Mo_suit 88 rfl) ?_
              refine sv_ladd (pc := 158) (sv_d k_Mo_suit 89 rfl) ?_
              refine ss_topL (fun v8 e_v8 => ?_)
              refine sv_lstore (pc := 159) (lv' := [(4, .long v8), (8, .long v7), (7, .int r6.1), (0, sv_r E 187), (1, .int x1), (2, .int x2), (3, .int x3), (6, .int x6)]) (sv_d k_Mo_suit 90 rfl) (by decide) rfl ?_
              exact sv_loc [3, 4, 5, 6, 0, 7] rfl (V_Mo_suit_b161 E d (F_Mo_suit_b41  n) ih x1 x2 x3 v8 x6 r6.2)
            · refine sv_goto (pc := 110) (tgt := 161) (sv_d k_Mo_suit 60 rfl) (by decide) ?_
              exact sv_loc [1, 2, 3, 4, 5, 6] rfl (V_Mo_suit_b161 E d (F_Mo_suit_b41  n) ih x1 x2 x3 y4 x6 r6.2)
        · refine sv_goto (pc := 82) (tgt := 161) (sv_d k_Mo_suit 47 rfl) (by decide) ?_
          exact sv_loc [0, 1, 2, 3, 4, 5] rfl (V_Mo_suit_b161 E d (F_Mo_suit_b41  n) ih x1 x2 x3 y4 x6 s)
def F_Mo_suit (x1 : Int32) (s : sv_S) : Option (Int64 × sv_S) :=
  (F_Mo_isStation x1 s).bind fun r1 =>
  if r1 = 0 then
    some ((-9223372036854775808 : Int64), s)
  else
  (F_Mo_look (-1 : Int32) (s.1 187 0) s).bind fun r2 =>
  if sv_ib (3 : Int32) 5 = true then
    ss_let (r2.1 201 (3 : Int32).toNatClampNeg) fun v3 =>
    if sv_ib (4 : Int32) 5 = true then
      ss_let (r2.1 201 (4 : Int32).toNatClampNeg) fun v4 =>
      F_Mo_suit_b41 ss_F x1 v3 v4 (0 : Int64) (0 : Int32) r2
    else none
  else none
theorem V_Mo_suit (E : sv_E) (d : Nat) (x1 : Int32) (s : sv_S) : sv_V E m_Mo_suit (d + 10) ss_l 0 (lv_args 0 [sv_r E 187, .int x1]) [] (ss_e s) (F_Mo_suit x1 s) := by
  show sv_V E m_Mo_suit (d + 10) ss_l 0 [(0, sv_r E 187), (1, .int x1)] [] (ss_e s) _
  unfold F_Mo_suit
  refine sv_aload_n (pc := 0) 0 (sv_d k_Mo_suit 0 rfl) rfl rfl ?_
  refine sv_iload_n (pc := 1) 1 (sv_d k_Mo_suit 1 rfl) rfl rfl ?_
  refine sv_callV (pc := 2) (ψ := (ss_pi s)) (As := [.int x1]) (rest := []) (c := 187) (sv_d k_Mo_suit 2 rfl) g_Mo_isStation w1557 in_Mo_isStation se_Mo_isStation cf12 kd187 (ss_lt (by decide)) rfl (Nat.le_of_ble_eq_true rfl) (V_Mo_isStation E (d + 8) x1 s) (Nat.le_of_ble_eq_true rfl) rfl (fun r1 => ?_)
  show sv_V E _ _ _ 5 _ [.int r1] (ss_e s) _
  refine sv_if_ne (pc := 5) (tgt := 12) (sv_d k_Mo_suit 3 rfl) (by decide) ?_ ?_
  · refine sv_aload_n (pc := 12) 0 (sv_d k_Mo_suit 6 rfl) rfl rfl ?_
    refine sv_iconst (pc := 13) (v := (-1 : Int32)) (sv_d k_Mo_suit 7 rfl) (by decide) ?_
    refine sv_aload_n (pc := 14) 0 (sv_d k_Mo_suit 8 rfl) rfl rfl ?_
    refine sv_getf (pc := 15) 0 (sv_d k_Mo_suit 9 rfl) cf12 (by decide) w1302 kd187 (ss_lt (by decide)) rfl ?_
    refine sv_callV (pc := 18) (ψ := ss_v) (As := [.int (-1 : Int32), .int (s.1 187 0)]) (rest := []) (c := 187) (sv_d k_Mo_suit 10 rfl) g_Mo_look w1670 in_Mo_look se_Mo_look cf12 kd187 (ss_lt (by decide)) rfl (Nat.le_of_ble_eq_true rfl) (V_Mo_look E (d + 2) (-1 : Int32) (s.1 187 0) s) (Nat.le_of_ble_eq_true rfl) rfl (fun r2 => ?_)
    show sv_V E _ _ _ 21 _ [] (ss_e r2) _
    refine sv_aload_n (pc := 21) 0 (sv_d k_Mo_suit 11 rfl) rfl rfl ?_
    refine sv_getf (pc := 22) 18 (sv_d k_Mo_suit 12 rfl) cf12 (by decide) w1320 kd187 (ss_lt (by decide)) (lr_187_18 E _) ?_
    refine sv_iconst (pc := 25) (v := (3 : Int32)) (sv_d k_Mo_suit 13 rfl) (by decide) ?_
    refine ss_iald (pc := 26) (n := 5) (sv_d k_Mo_suit 14 rfl) kd201 (ss_lt (by decide)) rfl ?_
    refine ss_top (fun v3 e_v3 => ?_)
    refine sv_istore_n (pc := 27) (lv' := [(2, .int v3), (0, sv_r E 187), (1, .int x1)]) (sv_d k_Mo_suit 15 rfl) rfl (by decide) rfl ?_
    refine sv_aload_n (pc := 28) 1 (sv_d k_Mo_suit 16 rfl) rfl rfl ?_
    refine sv_getf (pc := 29) 18 (sv_d k_Mo_suit 17 rfl) cf12 (by decide) w1320 kd187 (ss_lt (by decide)) (lr_187_18 E _) ?_
    refine sv_iconst (pc := 32) (v := (4 : Int32)) (sv_d k_Mo_suit 18 rfl) (by decide) ?_
    refine ss_iald (pc := 33) (n := 5) (sv_d k_Mo_suit 19 rfl) kd201 (ss_lt (by decide)) rfl ?_
    refine ss_top (fun v4 e_v4 => ?_)
    refine sv_istore_n (pc := 34) (lv' := [(3, .int v4), (2, .int v3), (0, sv_r E 187), (1, .int x1)]) (sv_d k_Mo_suit 20 rfl) rfl (by decide) rfl ?_
    refine sv_lconst (pc := 35) (v := (0 : Int64)) (sv_d k_Mo_suit 21 rfl) (by decide) ?_
    refine sv_lstore (pc := 36) (lv' := [(4, .long (0 : Int64)), (3, .int v4), (2, .int v3), (0, sv_r E 187), (1, .int x1)]) (sv_d k_Mo_suit 22 rfl) (by decide) rfl ?_
    refine sv_iconst (pc := 38) (v := (0 : Int32)) (sv_d k_Mo_suit 23 rfl) (by decide) ?_
    refine sv_istore (pc := 39) (lv' := [(6, .int (0 : Int32)), (4, .long (0 : Int64)), (3, .int v4), (2, .int v3), (0, sv_r E 187), (1, .int x1)]) (sv_d k_Mo_suit 24 rfl) (by decide) rfl ?_
    exact sv_loc [4, 5, 3, 2, 1, 0] rfl (V_Mo_suit_b41 E d ss_F x1 v3 v4 (0 : Int64) (0 : Int32) r2)
  · refine sv_ldc2 (pc := 8) (v := (-9223372036854775808 : Int64)) w1812 (sv_d k_Mo_suit 4 rfl) ?_
    exact sv_ret (pc := 11) (sv_d k_Mo_suit 5 rfl) ⟨_, rfl⟩ rfl
/-! Mo_sumUp -/
abbrev m_Mo_sumUp : sv_M := (yX12_sumUp, cX12_sumUp, 6, (some .boolean))
def t_Mo_sumUp : List (Nat × Instr × Nat) := [(0, .aload_n 0, 1), (1, .iload_n 2, 1), (2, .putfield 190, 3), (5, .iconst 0, 1), (6, .istore_n 3, 1), (7, .iload_n 3, 1), (8, .sipush 144, 3), (11, .if_icmp .ge 27, 3), (14, .aload_n 0, 1), (15, .getfield 187, 3), (18, .iload_n 3, 1), (19, .iload_n 3, 1), (20, .iload_n 2, 1), (21, .if_icmp .ne 7, 3), (24, .iconst 0, 1), (25, .goto 6, 3), (28, .ldc_w 425, 3), (31, .iastore, 1), (32, .iinc 3 1, 3), (35, .goto (-28), 3), (38, .iconst 1, 1), (39, .istore_n 3, 1), (40, .iload_n 3, 1), (41, .bipush 8, 2), (43, .if_icmp .gt 135, 3), (46, .iconst 0, 1), (47, .istore 4, 2), (49, .iload 4, 2), (51, .aload_n 0, 1), (52, .getfield 109, 3), (55, .if_icmp .ge 117, 3), (58, .aload_n 0, 1), (59, .getfield 184, 3), (62, .iload 4, 2), (64, .iaload, 1), (65, .ifCond .lt 101, 3), (68, .aload_n 0, 1), (69, .getfield 187, 3), (72, .bipush 16, 2), (74, .iload_n 3, 1), (75, .iconst 1, 1), (76, .isub, 1), (77, .imul, 1), (78, .aload_n 0, 1), (79, .getfield 121, 3), (82, .iload 4, 2), (84, .iaload, 1), (85, .iadd, 1), (86, .iaload, 1), (87, .ldc_w 425, 3), (90, .if_icmp .lt 6, 3), (93, .goto 73, 3), (96, .aload_n 0, 1), (97, .getfield 184, 3), (100, .iload 4, 2), (102, .iaload, 1), (103, .aload_n 0, 1), (104, .getfield 187, 3), (107, .bipush 16, 2), (109, .iload_n 3, 1), (110, .iconst 1, 1), (111, .isub, 1), (112, .imul, 1), (113, .aload_n 0, 1), (114, .getfield 121, 3), (117, .iload 4, 2), (119, .iaload, 1), (120, .iadd, 1), (121, .iaload, 1), (122, .iadd, 1), (123, .istore 5, 2), (125, .iload 5, 2), (127, .aload_n 0, 1), (128, .getfield 187, 3), (131, .bipush 16, 2), (133, .iload_n 3, 1), (134, .imul, 1), (135, .aload_n 0, 1), (136, .getfield 118, 3), (139, .iload 4, 2), (141, .iaload, 1), (142, .iadd, 1), (143, .iaload, 1), (144, .if_icmp .ge 22, 3), (147, .aload_n 0, 1), (148, .getfield 187, 3), (151, .bipush 16, 2), (153, .iload_n 3, 1), (154, .imul, 1), (155, .aload_n 0, 1), (156, .getfield 118, 3), (159, .iload 4, 2), (161, .iaload, 1), (162, .iadd, 1), (163, .iload 5, 2), (165, .iastore, 1), (166, .iinc 4 1, 3), (169, .goto (-120), 3), (172, .iinc 3 1, 3), (175, .goto (-135), 3), (178, .aload_n 0, 1), (179, .iconst 0, 1), (180, .putfield 193, 3), (183, .iconst 1, 1), (184, .istore_n 3, 1), (185, .iload_n 3, 1), (186, .bipush 8, 2), (188, .if_icmp .gt 71, 3), (191, .aload_n 0, 1), (192, .getfield 187, 3), (195, .bipush 16, 2), (197, .iload_n 3, 1), (198, .imul, 1), (199, .iload_n 1, 1), (200, .iadd, 1), (201, .iaload, 1), (202, .ldc_w 425, 3), (205, .if_icmp .ge 48, 3), (208, .aload_n 0, 1), (209, .getfield 193, 3), (212, .ifCond .eq 21, 3), (215, .aload_n 0, 1), (216, .getfield 187, 3), (219, .bipush 16, 2), (221, .iload_n 3, 1), (222, .imul, 1), (223, .iload_n 1, 1), (224, .iadd, 1), (225, .iaload, 1), (226, .aload_n 0, 1), (227, .getfield 196, 3), (230, .if_icmp .ge 23, 3), (233, .aload_n 0, 1), (234, .iload_n 3, 1), (235, .putfield 193, 3), (238, .aload_n 0, 1), (239, .aload_n 0, 1), (240, .getfield 187, 3), (243, .bipush 16, 2), (245, .iload_n 3, 1), (246, .imul, 1), (247, .iload_n 1, 1), (248, .iadd, 1), (249, .iaload, 1), (250, .putfield 196, 3), (253, .iinc 3 1, 3), (256, .goto (-71), 3), (259, .iload_n 1, 1), (260, .istore_n 3, 1), (261, .aload_n 0, 1), (262, .getfield 193, 3), (265, .istore 4, 2), (267, .iload 4, 2), (269, .ifCond .le 130, 3), (272, .iconst 0, 1), (273, .istore 5, 2), (275, .aload_n 0, 1), (276, .getfield 184, 3), (279, .iload 5, 2), (281, .iaload, 1), (282, .ifCond .lt 83, 3), (285, .aload_n 0, 1), (286, .getfield 118, 3), (289, .iload 5, 2), (291, .iaload, 1), (292, .iload_n 3, 1), (293, .if_icmp .ne 72, 3), (296, .aload_n 0, 1), (297, .getfield 187, 3), (300, .bipush 16, 2), (302, .iload 4, 2), (304, .iconst 1, 1), (305, .isub, 1), (306, .imul, 1), (307, .aload_n 0, 1), (308, .getfield 121, 3), (311, .iload 5, 2), (313, .iaload, 1), (314, .iadd, 1), (315, .iaload, 1), (316, .ldc_w 425, 3), (319, .if_icmp .ge 46, 3), (322, .aload_n 0, 1), (323, .getfield 184, 3), (326, .iload 5, 2), (328, .iaload, 1), (329, .aload_n 0, 1), (330, .getfield 187, 3), (333, .bipush 16, 2), (335, .iload 4, 2), (337, .iconst 1, 1), (338, .isub, 1), (339, .imul, 1), (340, .aload_n 0, 1), (341, .getfield 121, 3), (344, .iload 5, 2), (346, .iaload, 1), (347, .iadd, 1), (348, .iaload, 1), (349, .iadd, 1), (350, .aload_n 0, 1), (351, .getfield 187, 3), (354, .bipush 16, 2), (356, .iload 4, 2), (358, .imul, 1), (359, .iload_n 3, 1), (360, .iadd, 1), (361, .iaload, 1), (362, .if_icmp .eq 9, 3), (365, .iinc 5 1, 3), (368, .goto (-93), 3), (371, .aload_n 0, 1), (372, .getfield 199, 3), (375, .aload_n 0, 1), (376, .getfield 193, 3), (379, .iload 4, 2), (381, .isub, 1), (382, .iload 5, 2), (384, .iastore, 1), (385, .aload_n 0, 1), (386, .getfield 121, 3), (389, .iload 5, 2), (391, .iaload, 1), (392, .istore_n 3, 1), (393, .iinc 4 (-1), 3), (396, .goto (-129), 3), (399, .aload_n 0, 1), (400, .getfield 193, 3), (403, .ifCond .le 7, 3), (406, .iconst 1, 1), (407, .goto 4, 3), (410, .iconst 0, 1), (411, .ireturn, 1)]
theorem k_Mo_sumUp : sv_tk m_Mo_sumUp.2.1 t_Mo_sumUp := by decide +kernel
theorem g_Mo_sumUp : sv_G m_Mo_sumUp 2 := ⟨by decide +kernel, sv_in 1825 (by decide +kernel) rfl, sv_in 103 (by decide +kernel) rfl, ⟨by decide, by decide⟩, by decide +kernel, by decide⟩
theorem in_Mo_sumUp : Cond.instanceMethod m_Mo_sumUp.1 ∈ sv_T := sv_in 1824 (by decide +kernel) rfl
theorem se_Mo_sumUp : Cond.selects m_Mo_sumUp.1.cls m_Mo_sumUp.1 m_Mo_sumUp.1 ∈ sv_T := sv_in 76 (by decide +kernel) rfl
def F_Mo_sumUp_b365 (kc267 : Int32 → Int32 → sv_S → Option (Int32 × sv_S)) (kc275 : Int32 → Int32 → Int32 → sv_S → Option (Int32 × sv_S)) (x3 : Int32) (x4 : Int32) (x5 : Int32) (s : sv_S) : Option (Int32 × sv_S) :=
  ss_let (x5 + (1 : Int32)) fun v4 =>
  kc275 x3 x4 v4 s
theorem V_Mo_sumUp_b365 (E : sv_E) (d : Nat) (kc267 : Int32 → Int32 → sv_S → Option (Int32 × sv_S)) (kc275 : Int32 → Int32 → Int32 → sv_S → Option (Int32 × sv_S)) (hc267 : ∀ (x3 : Int32) (x4 : Int32) (s : sv_S), sv_V E m_Mo_sumUp (d + 0) ss_i 267 [(0, sv_r E 187), (3, .int x3), (4, .int x4)] [] (ss_e s) (kc267 x3 x4 s)) (hc275 : ∀ (x3 : Int32) (x4 : Int32) (x5 : Int32) (s : sv_S), sv_V E m_Mo_sumUp (d + 0) ss_i 275 [(0, sv_r E 187), (3, .int x3), (4, .int x4), (5, .int x5)] [] (ss_e s) (kc275 x3 x4 x5 s)) (x3 : Int32) (x4 : Int32) (x5 : Int32) (s : sv_S) : sv_V E m_Mo_sumUp (d + 0) ss_i 365 [(0, sv_r E 187), (3, .int x3), (4, .int x4), (5, .int x5)] [] (ss_e s) (F_Mo_sumUp_b365 kc267 kc275 x3 x4 x5 s) := by
  unfold F_Mo_sumUp_b365
  refine ss_letr (fun v4 e_v4 => ?_)
  refine sv_iinc (pc := 365) (v := v4) (lv' := [(5, .int v4), (0, sv_r E 187), (3, .int x3), (4, .int x4)]) (sv_d k_Mo_sumUp 209 rfl) (n := 3) rfl (by rw [e_v4]; rfl) (by decide) rfl ?_
  refine sv_goto (pc := 368) (tgt := 275) (sv_d k_Mo_sumUp 210 rfl) (by decide) ?_
  exact sv_loc [1, 2, 3, 0] rfl (hc275 x3 x4 v4 s)
def F_Mo_sumUp_b275 (kc267 : Int32 → Int32 → sv_S → Option (Int32 × sv_S)) : Nat → Int32 → Int32 → Int32 → sv_S → Option (Int32 × sv_S)
  | 0 => fun _ _ _ _ => none
  | n + 1 => fun x3 x4 x5 s =>
    if sv_ib x5 60 = true then
      if (s.1 227 x5.toNatClampNeg) < 0 then
        F_Mo_sumUp_b365 kc267 (F_Mo_sumUp_b275 kc267 n) x3 x4 x5 s
      else
      if sv_ib x5 60 = true then
        if (s.1 207 x5.toNatClampNeg) = x3 then
          if sv_ib x5 60 = true then
            if sv_ib (((16 : Int32) * (x4 - (1 : Int32))) + (s.1 208 x5.toNatClampNeg)) 144 = true then
              if (1000000000 : Int32) ≤ (s.1 228 (((16 : Int32) * (x4 - (1 : Int32))) + (s.1 208 x5.toNatClampNeg)).toNatClampNeg) then
                F_Mo_sumUp_b365 kc267 (F_Mo_sumUp_b275 kc267 n) x3 x4 x5 s
              else
              if sv_ib x5 60 = true then
                if sv_ib x5 60 = true then
                  if sv_ib (((16 : Int32) * (x4 - (1 : Int32))) + (s.1 208 x5.toNatClampNeg)) 144 = true then
                    if sv_ib (((16 : Int32) * x4) + x3) 144 = true then
                      if ((s.1 227 x5.toNatClampNeg) + (s.1 228 (((16 : Int32) * (x4 - (1 : Int32))) + (s.1 208 x5.toNatClampNeg)).toNatClampNeg)) = (s.1 228 (((16 : Int32) * x4) + x3).toNatClampNeg) then
                        if sv_ib ((s.1 187 60) - x4) 8 = true then
                          ss_let (ss_setI s 229 ((s.1 187 60) - x4).toNatClampNeg x5) fun s5 =>
                          if sv_ib x5 60 = true then
                            ss_let (s5.1 208 x5.toNatClampNeg) fun v6 =>
                            ss_let (x4 + (-1 : Int32)) fun v7 =>
                            kc267 v6 v7 s5
                          else none
                        else none
                      else
                      F_Mo_sumUp_b365 kc267 (F_Mo_sumUp_b275 kc267 n) x3 x4 x5 s
                    else none
                  else none
                else none
              else none
            else none
          else none
        else
        F_Mo_sumUp_b365 kc267 (F_Mo_sumUp_b275 kc267 n) x3 x4 x5 s
      else none
    else none
theorem V_Mo_sumUp_b275 (E : sv_E) (d : Nat) (kc267 : Int32 → Int32 → sv_S → Option (Int32 × sv_S)) (hc267 : ∀ (x3 : Int32) (x4 : Int32) (s : sv_S), sv_V E m_Mo_sumUp (d + 0) ss_i 267 [(0, sv_r E 187), (3, .int x3), (4, .int x4)] [] (ss_e s) (kc267 x3 x4 s)) : ∀ (n : Nat) (x3 : Int32) (x4 : Int32) (x5 : Int32) (s : sv_S), sv_V E m_Mo_sumUp (d + 0) ss_i 275 [(0, sv_r E 187), (3, .int x3), (4, .int x4), (5, .int x5)] [] (ss_e s) (F_Mo_sumUp_b275 kc267 n x3 x4 x5 s) := by
  intro n
  induction n with
  | zero => intro x3 x4 x5 s; exact sv_none
  | succ n ih =>
    intro x3 x4 x5 s
    unfold F_Mo_sumUp_b275
    refine sv_aload_n (pc := 275) 0 (sv_d k_Mo_sumUp 156 rfl) rfl rfl ?_
    refine sv_getf (pc := 276) 57 (sv_d k_Mo_sumUp 157 rfl) cf12 (by decide) w1359 kd187 (ss_lt (by decide)) (lr_187_57 E _) ?_
    refine sv_iload (pc := 279) 3 (sv_d k_Mo_sumUp 158 rfl) rfl ?_
    refine ss_iald (pc := 281) (n := 60) (sv_d k_Mo_sumUp 159 rfl) kd227 (ss_lt (by decide)) rfl ?_
    refine sv_if_lt (pc := 282) (tgt := 365) (sv_d k_Mo_sumUp 160 rfl) (by decide) ?_ ?_
    · exact sv_loc [0, 1, 2, 3] rfl (V_Mo_sumUp_b365 E d kc267 (F_Mo_sumUp_b275 kc267 n) hc267 ih x3 x4 x5 s)
    · refine sv_aload_n (pc := 285) 0 (sv_d k_Mo_sumUp 161 rfl) rfl rfl ?_
      refine sv_getf (pc := 286) 35 (sv_d k_Mo_sumUp 162 rfl) cf12 (by decide) w1337 kd187 (ss_lt (by decide)) (lr_187_35 E _) ?_
      refine sv_iload (pc := 289) 3 (sv_d k_Mo_sumUp 163 rfl) rfl ?_
      refine ss_iald (pc := 291) (n := 60) (sv_d k_Mo_sumUp 164 rfl) kd207 (ss_lt (by decide)) rfl ?_
      refine sv_iload_n (pc := 292) 1 (sv_d k_Mo_sumUp 165 rfl) rfl rfl ?_
      refine sv_icmp_ne (pc := 293) (tgt := 365) (sv_d k_Mo_sumUp 166 rfl) (by decide) ?_ ?_
      · exact sv_loc [0, 1, 2, 3] rfl (V_Mo_sumUp_b365 E d kc267 (F_Mo_sumUp_b275 kc267 n) hc267 ih x3 x4 x5 s)
      · refine sv_aload_n (pc := 296) 0 (sv_d k_Mo_sumUp 167 rfl) rfl rfl ?_
        refine sv_getf (pc := 297) 58 (sv_d k_Mo_sumUp 168 rfl) cf12 (by decide) w1360 kd187 (ss_lt (by decide)) (lr_187_58 E _) ?_
        refine sv_bipush (pc := 300) (v := (16 : Int32)) (sv_d k_Mo_sumUp 169 rfl) (by decide) ?_
        refine sv_iload (pc := 302) 2 (sv_d k_Mo_sumUp 170 rfl) rfl ?_
        refine sv_iconst (pc := 304) (v := (1 : Int32)) (sv_d k_Mo_sumUp 171 rfl) (by decide) ?_
        refine sv_isub (pc := 305) (sv_d k_Mo_sumUp 172 rfl) ?_
        refine sv_imul (pc := 306) (sv_d k_Mo_sumUp 173 rfl) ?_
        refine sv_aload_n (pc := 307) 0 (sv_d k_Mo_sumUp 174 rfl) rfl rfl ?_
        refine sv_getf (pc := 308) 36 (sv_d k_Mo_sumUp 175 rfl) cf12 (by decide) w1338 kd187 (ss_lt (by decide)) (lr_187_36 E _) ?_
        refine sv_iload (pc := 311) 3 (sv_d k_Mo_sumUp 176 rfl) rfl ?_
        refine ss_iald (pc := 313) (n := 60) (sv_d k_Mo_sumUp 177 rfl) kd208 (ss_lt (by decide)) rfl ?_
        refine sv_iadd (pc := 314) (sv_d k_Mo_sumUp 178 rfl) ?_
        refine ss_iald (pc := 315) (n := 144) (sv_d k_Mo_sumUp 179 rfl) kd228 (ss_lt (by decide)) rfl ?_
        refine sv_ldcw (pc := 316) (v := (1000000000 : Int32)) w1826 (sv_d k_Mo_sumUp 180 rfl) ?_
        refine sv_icmp_ge (pc := 319) (tgt := 365) (sv_d k_Mo_sumUp 181 rfl) (by decide) ?_ ?_
        · exact sv_loc [0, 1, 2, 3] rfl (V_Mo_sumUp_b365 E d kc267 (F_Mo_sumUp_b275 kc267 n) hc267 ih x3 x4 x5 s)
        · refine sv_aload_n (pc := 322) 0 (sv_d k_Mo_sumUp 182 rfl) rfl rfl ?_
          refine sv_getf (pc := 323) 57 (sv_d k_Mo_sumUp 183 rfl) cf12 (by decide) w1359 kd187 (ss_lt (by decide)) (lr_187_57 E _) ?_
          refine sv_iload (pc := 326) 3 (sv_d k_Mo_sumUp 184 rfl) rfl ?_
          refine ss_iald (pc := 328) (n := 60) (sv_d k_Mo_sumUp 185 rfl) kd227 (ss_lt (by decide)) rfl ?_
          refine sv_aload_n (pc := 329) 0 (sv_d k_Mo_sumUp 186 rfl) rfl rfl ?_
          refine sv_getf (pc := 330) 58 (sv_d k_Mo_sumUp 187 rfl) cf12 (by decide) w1360 kd187 (ss_lt (by decide)) (lr_187_58 E _) ?_
          refine sv_bipush (pc := 333) (v := (16 : Int32)) (sv_d k_Mo_sumUp 188 rfl) (by decide) ?_
          refine sv_iload (pc := 335) 2 (sv_d k_Mo_sumUp 189 rfl) rfl ?_
          refine sv_iconst (pc := 337) (v := (1 : Int32)) (sv_d k_Mo_sumUp 190 rfl) (by decide) ?_
          refine sv_isub (pc := 338) (sv_d k_Mo_sumUp 191 rfl) ?_
          refine sv_imul (pc := 339) (sv_d k_Mo_sumUp 192 rfl) ?_
          refine sv_aload_n (pc := 340) 0 (sv_d k_Mo_sumUp 193 rfl) rfl rfl ?_
          refine sv_getf (pc := 341) 36 (sv_d k_Mo_sumUp 194 rfl) cf12 (by decide) w1338 kd187 (ss_lt (by decide)) (lr_187_36 E _) ?_
          refine sv_iload (pc := 344) 3 (sv_d k_Mo_sumUp 195 rfl) rfl ?_
          refine ss_iald (pc := 346) (n := 60) (sv_d k_Mo_sumUp 196 rfl) kd208 (ss_lt (by decide)) rfl ?_
          refine sv_iadd (pc := 347) (sv_d k_Mo_sumUp 197 rfl) ?_
          refine ss_iald (pc := 348) (n := 144) (sv_d k_Mo_sumUp 198 rfl) kd228 (ss_lt (by decide)) rfl ?_
          refine sv_iadd (pc := 349) (sv_d k_Mo_sumUp 199 rfl) ?_
          refine sv_aload_n (pc := 350) 0 (sv_d k_Mo_sumUp 200 rfl) rfl rfl ?_
          refine sv_getf (pc := 351) 58 (sv_d k_Mo_sumUp 201 rfl) cf12 (by decide) w1360 kd187 (ss_lt (by decide)) (lr_187_58 E _) ?_
          refine sv_bipush (pc := 354) (v := (16 : Int32)) (sv_d k_Mo_sumUp 202 rfl) (by decide) ?_
          refine sv_iload (pc := 356) 2 (sv_d k_Mo_sumUp 203 rfl) rfl ?_
          refine sv_imul (pc := 358) (sv_d k_Mo_sumUp 204 rfl) ?_
          refine sv_iload_n (pc := 359) 1 (sv_d k_Mo_sumUp 205 rfl) rfl rfl ?_
          refine sv_iadd (pc := 360) (sv_d k_Mo_sumUp 206 rfl) ?_
          refine ss_iald (pc := 361) (n := 144) (sv_d k_Mo_sumUp 207 rfl) kd228 (ss_lt (by decide)) rfl ?_
          refine sv_icmp_eq (pc := 362) (tgt := 371) (sv_d k_Mo_sumUp 208 rfl) (by decide) ?_ ?_
          · refine sv_aload_n (pc := 371) 0 (sv_d k_Mo_sumUp 211 rfl) rfl rfl ?_
            refine sv_getf (pc := 372) 62 (sv_d k_Mo_sumUp 212 rfl) cf12 (by decide) w1364 kd187 (ss_lt (by decide)) (lr_187_62 E _) ?_
            refine sv_aload_n (pc := 375) 0 (sv_d k_Mo_sumUp 213 rfl) rfl rfl ?_
            refine sv_getf (pc := 376) 60 (sv_d k_Mo_sumUp 214 rfl) cf12 (by decide) w1362 kd187 (ss_lt (by decide)) rfl ?_
            refine sv_iload (pc := 379) 2 (sv_d k_Mo_sumUp 215 rfl) rfl ?_
            refine sv_isub (pc := 381) (sv_d k_Mo_sumUp 216 rfl) ?_
            refine sv_iload (pc := 382) 3 (sv_d k_Mo_sumUp 217 rfl) rfl ?_
            refine ss_iast (pc := 384) (n := 8) (sv_d k_Mo_sumUp 218 rfl) kd229 (by decide) (ss_lt (by decide)) rfl (ss_lets (fun s5 e_s5 => ?_))
            refine sv_aload_n (pc := 385) 0 (sv_d k_Mo_sumUp 219 rfl) rfl rfl ?_
            refine sv_getf (pc := 386) 36 (sv_d k_Mo_sumUp 220 rfl) cf12 (by decide) w1338 kd187 (ss_lt (by decide)) (lr_187_36 E _) ?_
            refine sv_iload (pc := 389) 3 (sv_d k_Mo_sumUp 221 rfl) rfl ?_
            refine ss_iald (pc := 391) (n := 60) (sv_d k_Mo_sumUp 222 rfl) kd208 (ss_lt (by decide)) rfl ?_
            refine ss_top (fun v6 e_v6 => ?_)
            refine sv_istore_n (pc := 392) (lv' := [(3, .int v6), (0, sv_r E 187), (4, .int x4), (5, .int x5)]) (sv_d k_Mo_sumUp 223 rfl) rfl (by decide) rfl ?_
            refine ss_letr (fun v7 e_v7 => ?_)
            refine sv_iinc (pc := 393) (v := v7) (lv' := [(4, .int v7), (3, .int v6), (0, sv_r E 187), (5, .int x5)]) (sv_d k_Mo_sumUp 224 rfl) (n := 2) rfl (by rw [e_v7]; rfl) (by decide) rfl ?_
            refine sv_goto (pc := 396) (tgt := 267) (sv_d k_Mo_sumUp 225 rfl) (by decide) ?_
            exact sv_loc [2, 1, 0] rfl (hc267 v6 v7 s5)
          · exact sv_loc [0, 1, 2, 3] rfl (V_Mo_sumUp_b365 E d kc267 (F_Mo_sumUp_b275 kc267 n) hc267 ih x3 x4 x5 s)
def F_Mo_sumUp_b267 : Nat → Int32 → Int32 → sv_S → Option (Int32 × sv_S)
  | 0 => fun _ _ _ => none
  | n + 1 => fun x3 x4 s =>
    if x4 ≤ 0 then
      if (s.1 187 60) ≤ 0 then
        some ((0 : Int32), s)
      else
      some ((1 : Int32), s)
    else
    F_Mo_sumUp_b275 (F_Mo_sumUp_b267  n) ss_F x3 x4 (0 : Int32) s
theorem V_Mo_sumUp_b267 (E : sv_E) (d : Nat) : ∀ (n : Nat) (x3 : Int32) (x4 : Int32) (s : sv_S), sv_V E m_Mo_sumUp (d + 0) ss_i 267 [(0, sv_r E 187), (3, .int x3), (4, .int x4)] [] (ss_e s) (F_Mo_sumUp_b267 n x3 x4 s) := by
  intro n
  induction n with
  | zero => intro x3 x4 s; exact sv_none
  | succ n ih =>
    intro x3 x4 s
    unfold F_Mo_sumUp_b267
    refine sv_iload (pc := 267) 2 (sv_d k_Mo_sumUp 152 rfl) rfl ?_
    refine sv_if_le (pc := 269) (tgt := 399) (sv_d k_Mo_sumUp 153 rfl) (by decide) ?_ ?_
    · refine sv_aload_n (pc := 399) 0 (sv_d k_Mo_sumUp 226 rfl) rfl rfl ?_
      refine sv_getf (pc := 400) 60 (sv_d k_Mo_sumUp 227 rfl) cf12 (by decide) w1362 kd187 (ss_lt (by decide)) rfl ?_
      refine sv_if_le (pc := 403) (tgt := 410) (sv_d k_Mo_sumUp 228 rfl) (by decide) ?_ ?_
      · refine sv_iconst (pc := 410) (v := (0 : Int32)) (sv_d k_Mo_sumUp 231 rfl) (by decide) ?_
        exact sv_ret (pc := 411) (sv_d k_Mo_sumUp 232 rfl) ⟨_, rfl, rfl⟩ rfl
      · refine sv_iconst (pc := 406) (v := (1 : Int32)) (sv_d k_Mo_sumUp 229 rfl) (by decide) ?_
        refine sv_goto (pc := 407) (tgt := 411) (sv_d k_Mo_sumUp 230 rfl) (by decide) ?_
        exact sv_ret (pc := 411) (sv_d k_Mo_sumUp 232 rfl) ⟨_, rfl, rfl⟩ rfl
    · refine sv_iconst (pc := 272) (v := (0 : Int32)) (sv_d k_Mo_sumUp 154 rfl) (by decide) ?_
      refine sv_istore (pc := 273) (lv' := [(5, .int (0 : Int32)), (0, sv_r E 187), (3, .int x3), (4, .int x4)]) (sv_d k_Mo_sumUp 155 rfl) (by decide) rfl ?_
      exact sv_loc [1, 2, 3, 0] rfl (V_Mo_sumUp_b275 E d (F_Mo_sumUp_b267  n) ih ss_F x3 x4 (0 : Int32) s)
def F_Mo_sumUp_b253 (kc185 : Int32 → Int32 → sv_S → Option (Int32 × sv_S)) (x1 : Int32) (x3 : Int32) (s : sv_S) : Option (Int32 × sv_S) :=
  ss_let (x3 + (1 : Int32)) fun v8 =>
  kc185 x1 v8 s
theorem V_Mo_sumUp_b253 (E : sv_E) (d : Nat) (kc185 : Int32 → Int32 → sv_S → Option (Int32 × sv_S)) (hc185 : ∀ (x1 : Int32) (x3 : Int32) (s : sv_S), sv_V E m_Mo_sumUp (d + 0) ss_i 185 [(0, sv_r E 187), (1, .int x1), (3, .int x3)] [] (ss_e s) (kc185 x1 x3 s)) (x1 : Int32) (x3 : Int32) (s : sv_S) : sv_V E m_Mo_sumUp (d + 0) ss_i 253 [(0, sv_r E 187), (1, .int x1), (3, .int x3)] [] (ss_e s) (F_Mo_sumUp_b253 kc185 x1 x3 s) := by
  unfold F_Mo_sumUp_b253
  refine ss_letr (fun v8 e_v8 => ?_)
  refine sv_iinc (pc := 253) (v := v8) (lv' := [(3, .int v8), (0, sv_r E 187), (1, .int x1)]) (sv_d k_Mo_sumUp 145 rfl) (n := 2) rfl (by rw [e_v8]; rfl) (by decide) rfl ?_
  refine sv_goto (pc := 256) (tgt := 185) (sv_d k_Mo_sumUp 146 rfl) (by decide) ?_
  exact sv_loc [1, 2, 0] rfl (hc185 x1 v8 s)
def F_Mo_sumUp_b233 (kc185 : Int32 → Int32 → sv_S → Option (Int32 × sv_S)) (x1 : Int32) (x3 : Int32) (s : sv_S) : Option (Int32 × sv_S) :=
  ss_let (ss_setI s 187 60 x3) fun s9 =>
  if sv_ib (((16 : Int32) * x3) + x1) 144 = true then
    ss_let (ss_setI s9 187 61 (s9.1 228 (((16 : Int32) * x3) + x1).toNatClampNeg)) fun s10 =>
    F_Mo_sumUp_b253 kc185 x1 x3 s10
  else none
theorem V_Mo_sumUp_b233 (E : sv_E) (d : Nat) (kc185 : Int32 → Int32 → sv_S → Option (Int32 × sv_S)) (hc185 : ∀ (x1 : Int32) (x3 : Int32) (s : sv_S), sv_V E m_Mo_sumUp (d + 0) ss_i 185 [(0, sv_r E 187), (1, .int x1), (3, .int x3)] [] (ss_e s) (kc185 x1 x3 s)) (x1 : Int32) (x3 : Int32) (s : sv_S) : sv_V E m_Mo_sumUp (d + 0) ss_i 233 [(0, sv_r E 187), (1, .int x1), (3, .int x3)] [] (ss_e s) (F_Mo_sumUp_b233 kc185 x1 x3 s) := by
  unfold F_Mo_sumUp_b233
  refine sv_aload_n (pc := 233) 0 (sv_d k_Mo_sumUp 132 rfl) rfl rfl ?_
  refine sv_iload_n (pc := 234) 2 (sv_d k_Mo_sumUp 133 rfl) rfl rfl ?_
  refine ss_putI (pc := 235) 60 (sv_d k_Mo_sumUp 134 rfl) cf12 (by decide) rfl w1362 kd187 (ss_lt (by decide)) rfl rfl (fun _ => rfl) (ss_lets (fun s9 e_s9 => ?_))
  refine sv_aload_n (pc := 238) 0 (sv_d k_Mo_sumUp 135 rfl) rfl rfl ?_
  refine sv_aload_n (pc := 239) 0 (sv_d k_Mo_sumUp 136 rfl) rfl rfl ?_
  refine sv_getf (pc := 240) 58 (sv_d k_Mo_sumUp 137 rfl) cf12 (by decide) w1360 kd187 (ss_lt (by decide)) (lr_187_58 E _) ?_
  refine sv_bipush (pc := 243) (v := (16 : Int32)) (sv_d k_Mo_sumUp 138 rfl) (by decide) ?_
  refine sv_iload_n (pc := 245) 2 (sv_d k_Mo_sumUp 139 rfl) rfl rfl ?_
  refine sv_imul (pc := 246) (sv_d k_Mo_sumUp 140 rfl) ?_
  refine sv_iload_n (pc := 247) 1 (sv_d k_Mo_sumUp 141 rfl) rfl rfl ?_
  refine sv_iadd (pc := 248) (sv_d k_Mo_sumUp 142 rfl) ?_
  refine ss_iald (pc := 249) (n := 144) (sv_d k_Mo_sumUp 143 rfl) kd228 (ss_lt (by decide)) rfl ?_
  refine ss_putI (pc := 250) 61 (sv_d k_Mo_sumUp 144 rfl) cf12 (by decide) rfl w1363 kd187 (ss_lt (by decide)) rfl rfl (fun _ => rfl) (ss_lets (fun s10 e_s10 => ?_))
  exact sv_loc [0, 1, 2] rfl (V_Mo_sumUp_b253 E d kc185 hc185 x1 x3 s10)
def F_Mo_sumUp_b185 : Nat → Int32 → Int32 → sv_S → Option (Int32 × sv_S)
  | 0 => fun _ _ _ => none
  | n + 1 => fun x1 x3 s =>
    if (8 : Int32) < x3 then
      ss_let (s.1 187 60) fun v3 =>
      F_Mo_sumUp_b267 ss_F x1 v3 s
    else
    if sv_ib (((16 : Int32) * x3) + x1) 144 = true then
      if (1000000000 : Int32) ≤ (s.1 228 (((16 : Int32) * x3) + x1).toNatClampNeg) then
        F_Mo_sumUp_b253 (F_Mo_sumUp_b185  n) x1 x3 s
      else
      if (s.1 187 60) = 0 then
        F_Mo_sumUp_b233 (F_Mo_sumUp_b185  n) x1 x3 s
      else
      if sv_ib (((16 : Int32) * x3) + x1) 144 = true then
        if (s.1 187 61) ≤ (s.1 228 (((16 : Int32) * x3) + x1).toNatClampNeg) then
          F_Mo_sumUp_b253 (F_Mo_sumUp_b185  n) x1 x3 s
        else
        F_Mo_sumUp_b233 (F_Mo_sumUp_b185  n) x1 x3 s
      else none
    else none
theorem V_Mo_sumUp_b185 (E : sv_E) (d : Nat) : ∀ (n : Nat) (x1 : Int32) (x3 : Int32) (s : sv_S), sv_V E m_Mo_sumUp (d + 0) ss_i 185 [(0, sv_r E 187), (1, .int x1), (3, .int x3)] [] (ss_e s) (F_Mo_sumUp_b185 n x1 x3 s) := by
  intro n
  induction n with
  | zero => intro x1 x3 s; exact sv_none
  | succ n ih =>
    intro x1 x3 s
    unfold F_Mo_sumUp_b185
    refine sv_iload_n (pc := 185) 2 (sv_d k_Mo_sumUp 105 rfl) rfl rfl ?_
    refine sv_bipush (pc := 186) (v := (8 : Int32)) (sv_d k_Mo_sumUp 106 rfl) (by decide) ?_
    refine sv_icmp_gt (pc := 188) (tgt := 259) (sv_d k_Mo_sumUp 107 rfl) (by decide) ?_ ?_
    · refine sv_iload_n (pc := 259) 1 (sv_d k_Mo_sumUp 147 rfl) rfl rfl ?_
      refine sv_istore_n (pc := 260) (lv' := [(3, .int x1), (0, sv_r E 187), (1, .int x1)]) (sv_d k_Mo_sumUp 148 rfl) rfl (by decide) rfl ?_
      refine sv_aload_n (pc := 261) 1 (sv_d k_Mo_sumUp 149 rfl) rfl rfl ?_
      refine sv_getf (pc := 262) 60 (sv_d k_Mo_sumUp 150 rfl) cf12 (by decide) w1362 kd187 (ss_lt (by decide)) rfl ?_
      refine ss_top (fun v3 e_v3 => ?_)
      refine sv_istore (pc := 265) (lv' := [(4, .int v3), (3, .int x1), (0, sv_r E 187), (1, .int x1)]) (sv_d k_Mo_sumUp 151 rfl) (by decide) rfl ?_
      exact sv_loc [2, 1, 0] rfl (V_Mo_sumUp_b267 E d ss_F x1 v3 s)
    · refine sv_aload_n (pc := 191) 0 (sv_d k_Mo_sumUp 108 rfl) rfl rfl ?_
      refine sv_getf (pc := 192) 58 (sv_d k_Mo_sumUp 109 rfl) cf12 (by decide) w1360 kd187 (ss_lt (by decide)) (lr_187_58 E _) ?_
      refine sv_bipush (pc := 195) (v := (16 : Int32)) (sv_d k_Mo_sumUp 110 rfl) (by decide) ?_
      refine sv_iload_n (pc := 197) 2 (sv_d k_Mo_sumUp 111 rfl) rfl rfl ?_
      refine sv_imul (pc := 198) (sv_d k_Mo_sumUp 112 rfl) ?_
      refine sv_iload_n (pc := 199) 1 (sv_d k_Mo_sumUp 113 rfl) rfl rfl ?_
      refine sv_iadd (pc := 200) (sv_d k_Mo_sumUp 114 rfl) ?_
      refine ss_iald (pc := 201) (n := 144) (sv_d k_Mo_sumUp 115 rfl) kd228 (ss_lt (by decide)) rfl ?_
      refine sv_ldcw (pc := 202) (v := (1000000000 : Int32)) w1826 (sv_d k_Mo_sumUp 116 rfl) ?_
      refine sv_icmp_ge (pc := 205) (tgt := 253) (sv_d k_Mo_sumUp 117 rfl) (by decide) ?_ ?_
      · exact sv_loc [0, 1, 2] rfl (V_Mo_sumUp_b253 E d (F_Mo_sumUp_b185  n) ih x1 x3 s)
      · refine sv_aload_n (pc := 208) 0 (sv_d k_Mo_sumUp 118 rfl) rfl rfl ?_
        refine sv_getf (pc := 209) 60 (sv_d k_Mo_sumUp 119 rfl) cf12 (by decide) w1362 kd187 (ss_lt (by decide)) rfl ?_
        refine sv_if_eq (pc := 212) (tgt := 233) (sv_d k_Mo_sumUp 120 rfl) (by decide) ?_ ?_
        · exact sv_loc [0, 1, 2] rfl (V_Mo_sumUp_b233 E d (F_Mo_sumUp_b185  n) ih x1 x3 s)
        · refine sv_aload_n (pc := 215) 0 (sv_d k_Mo_sumUp 121 rfl) rfl rfl ?_
          refine sv_getf (pc := 216) 58 (sv_d k_Mo_sumUp 122 rfl) cf12 (by decide) w1360 kd187 (ss_lt (by decide)) (lr_187_58 E _) ?_
          refine sv_bipush (pc := 219) (v := (16 : Int32)) (sv_d k_Mo_sumUp 123 rfl) (by decide) ?_
          refine sv_iload_n (pc := 221) 2 (sv_d k_Mo_sumUp 124 rfl) rfl rfl ?_
          refine sv_imul (pc := 222) (sv_d k_Mo_sumUp 125 rfl) ?_
          refine sv_iload_n (pc := 223) 1 (sv_d k_Mo_sumUp 126 rfl) rfl rfl ?_
          refine sv_iadd (pc := 224) (sv_d k_Mo_sumUp 127 rfl) ?_
          refine ss_iald (pc := 225) (n := 144) (sv_d k_Mo_sumUp 128 rfl) kd228 (ss_lt (by decide)) rfl ?_
          refine sv_aload_n (pc := 226) 0 (sv_d k_Mo_sumUp 129 rfl) rfl rfl ?_
          refine sv_getf (pc := 227) 61 (sv_d k_Mo_sumUp 130 rfl) cf12 (by decide) w1363 kd187 (ss_lt (by decide)) rfl ?_
          refine sv_icmp_ge (pc := 230) (tgt := 253) (sv_d k_Mo_sumUp 131 rfl) (by decide) ?_ ?_
          · exact sv_loc [0, 1, 2] rfl (V_Mo_sumUp_b253 E d (F_Mo_sumUp_b185  n) ih x1 x3 s)
          · exact sv_loc [0, 1, 2] rfl (V_Mo_sumUp_b233 E d (F_Mo_sumUp_b185  n) ih x1 x3 s)
def F_Mo_sumUp_b166 (kc40 : Int32 → Int32 → sv_S → Option (Int32 × sv_S)) (kc49 : Int32 → Int32 → Int32 → sv_S → Option (Int32 × sv_S)) (x1 : Int32) (x3 : Int32) (x4 : Int32) (s : sv_S) : Option (Int32 × sv_S) :=
  ss_let (x4 + (1 : Int32)) fun v12 =>
  kc49 x1 x3 v12 s
theorem V_Mo_sumUp_b166 (E : sv_E) (d : Nat) (kc40 : Int32 → Int32 → sv_S → Option (Int32 × sv_S)) (kc49 : Int32 → Int32 → Int32 → sv_S → Option (Int32 × sv_S)) (hc40 : ∀ (x1 : Int32) (x3 : Int32) (s : sv_S), sv_V E m_Mo_sumUp (d + 0) ss_i 40 [(0, sv_r E 187), (1, .int x1), (3, .int x3)] [] (ss_e s) (kc40 x1 x3 s)) (hc49 : ∀ (x1 : Int32) (x3 : Int32) (x4 : Int32) (s : sv_S), sv_V E m_Mo_sumUp (d + 0) ss_i 49 [(0, sv_r E 187), (1, .int x1), (3, .int x3), (4, .int x4)] [] (ss_e s) (kc49 x1 x3 x4 s)) (x1 : Int32) (x3 : Int32) (x4 : Int32) (s : sv_S) : sv_V E m_Mo_sumUp (d + 0) ss_i 166 [(0, sv_r E 187), (1, .int x1), (3, .int x3), (4, .int x4)] [] (ss_e s) (F_Mo_sumUp_b166 kc40 kc49 x1 x3 x4 s) := by
  unfold F_Mo_sumUp_b166
  refine ss_letr (fun v12 e_v12 => ?_)
  refine sv_iinc (pc := 166) (v := v12) (lv' := [(4, .int v12), (0, sv_r E 187), (1, .int x1), (3, .int x3)]) (sv_d k_Mo_sumUp 96 rfl) (n := 3) rfl (by rw [e_v12]; rfl) (by decide) rfl ?_
  refine sv_goto (pc := 169) (tgt := 49) (sv_d k_Mo_sumUp 97 rfl) (by decide) ?_
  exact sv_loc [1, 2, 3, 0] rfl (hc49 x1 x3 v12 s)
def F_Mo_sumUp_b49 (kc40 : Int32 → Int32 → sv_S → Option (Int32 × sv_S)) : Nat → Int32 → Int32 → Int32 → sv_S → Option (Int32 × sv_S)
  | 0 => fun _ _ _ _ => none
  | n + 1 => fun x1 x3 x4 s =>
    if (s.1 187 32) ≤ x4 then
      ss_let (x3 + (1 : Int32)) fun v11 =>
      kc40 x1 v11 s
    else
    if sv_ib x4 60 = true then
      if (s.1 227 x4.toNatClampNeg) < 0 then
        F_Mo_sumUp_b166 kc40 (F_Mo_sumUp_b49 kc40 n) x1 x3 x4 s
      else
      if sv_ib x4 60 = true then
        if sv_ib (((16 : Int32) * (x3 - (1 : Int32))) + (s.1 208 x4.toNatClampNeg)) 144 = true then
          if (s.1 228 (((16 : Int32) * (x3 - (1 : Int32))) + (s.1 208 x4.toNatClampNeg)).toNatClampNeg) < (1000000000 : Int32) then
            if sv_ib x4 60 = true then
              if sv_ib x4 60 = true then
                if sv_ib (((16 : Int32) * (x3 - (1 : Int32))) + (s.1 208 x4.toNatClampNeg)) 144 = true then
                  ss_let ((s.1 227 x4.toNatClampNeg) + (s.1 228 (((16 : Int32) * (x3 - (1 : Int32))) + (s.1 208 x4.toNatClampNeg)).toNatClampNeg)) fun v13 =>
                  if sv_ib x4 60 = true then
                    if sv_ib (((16 : Int32) * x3) + (s.1 207 x4.toNatClampNeg)) 144 = true then
                      if (s.1 228 (((16 : Int32) * x3) + (s.1 207 x4.toNatClampNeg)).toNatClampNeg) ≤ v13 then
                        F_Mo_sumUp_b166 kc40 (F_Mo_sumUp_b49 kc40 n) x1 x3 x4 s
                      else
                      if sv_ib x4 60 = true then
                        if sv_ib (((16 : Int32) * x3) + (s.1 207 x4.toNatClampNeg)) 144 = true then
                          ss_let (ss_setI s 228 (((16 : Int32) * x3) + (s.1 207 x4.toNatClampNeg)).toNatClampNeg v13) fun s14 =>
                          F_Mo_sumUp_b166 kc40 (F_Mo_sumUp_b49 kc40 n) x1 x3 x4 s14
                        else none
                      else none
                    else none
                  else none
                else none
              else none
            else none
          else
          F_Mo_sumUp_b166 kc40 (F_Mo_sumUp_b49 kc40 n) x1 x3 x4 s
        else none
      else none
    else none
theorem V_Mo_sumUp_b49 (E : sv_E) (d : Nat) (kc40 : Int32 → Int32 → sv_S → Option (Int32 × sv_S)) (hc40 : ∀ (x1 : Int32) (x3 : Int32) (s : sv_S), sv_V E m_Mo_sumUp (d + 0) ss_i 40 [(0, sv_r E 187), (1, .int x1), (3, .int x3)] [] (ss_e s) (kc40 x1 x3 s)) : ∀ (n : Nat) (x1 : Int32) (x3 : Int32) (x4 : Int32) (s : sv_S), sv_V E m_Mo_sumUp (d + 0) ss_i 49 [(0, sv_r E 187), (1, .int x1), (3, .int x3), (4, .int x4)] [] (ss_e s) (F_Mo_sumUp_b49 kc40 n x1 x3 x4 s) := by
  intro n
  induction n with
  | zero => intro x1 x3 x4 s; exact sv_none
  | succ n ih =>
    intro x1 x3 x4 s
    unfold F_Mo_sumUp_b49
    refine sv_iload (pc := 49) 3 (sv_d k_Mo_sumUp 27 rfl) rfl ?_
    refine sv_aload_n (pc := 51) 0 (sv_d k_Mo_sumUp 28 rfl) rfl rfl ?_
    refine sv_getf (pc := 52) 32 (sv_d k_Mo_sumUp 29 rfl) cf12 (by decide) w1334 kd187 (ss_lt (by decide)) rfl ?_
    refine sv_icmp_ge (pc := 55) (tgt := 172) (sv_d k_Mo_sumUp 30 rfl) (by decide) ?_ ?_
    · refine ss_letr (fun v11 e_v11 => ?_)
      refine sv_iinc (pc := 172) (v := v11) (lv' := [(3, .int v11), (0, sv_r E 187), (1, .int x1), (4, .int x4)]) (sv_d k_Mo_sumUp 98 rfl) (n := 2) rfl (by rw [e_v11]; rfl) (by decide) rfl ?_
      refine sv_goto (pc := 175) (tgt := 40) (sv_d k_Mo_sumUp 99 rfl) (by decide) ?_
      exact sv_loc [1, 2, 0] rfl (hc40 x1 v11 s)
    · refine sv_aload_n (pc := 58) 0 (sv_d k_Mo_sumUp 31 rfl) rfl rfl ?_
      refine sv_getf (pc := 59) 57 (sv_d k_Mo_sumUp 32 rfl) cf12 (by decide) w1359 kd187 (ss_lt (by decide)) (lr_187_57 E _) ?_
      refine sv_iload (pc := 62) 3 (sv_d k_Mo_sumUp 33 rfl) rfl ?_
      refine ss_iald (pc := 64) (n := 60) (sv_d k_Mo_sumUp 34 rfl) kd227 (ss_lt (by decide)) rfl ?_
      refine sv_if_lt (pc := 65) (tgt := 166) (sv_d k_Mo_sumUp 35 rfl) (by decide) ?_ ?_
      · exact sv_loc [0, 1, 2, 3] rfl (V_Mo_sumUp_b166 E d kc40 (F_Mo_sumUp_b49 kc40 n) hc40 ih x1 x3 x4 s)
      · refine sv_aload_n (pc := 68) 0 (sv_d k_Mo_sumUp 36 rfl) rfl rfl ?_
        refine sv_getf (pc := 69) 58 (sv_d k_Mo_sumUp 37 rfl) cf12 (by decide) w1360 kd187 (ss_lt (by decide)) (lr_187_58 E _) ?_
        refine sv_bipush (pc := 72) (v := (16 : Int32)) (sv_d k_Mo_sumUp 38 rfl) (by decide) ?_
        refine sv_iload_n (pc := 74) 2 (sv_d k_Mo_sumUp 39 rfl) rfl rfl ?_
        refine sv_iconst (pc := 75) (v := (1 : Int32)) (sv_d k_Mo_sumUp 40 rfl) (by decide) ?_
        refine sv_isub (pc := 76) (sv_d k_Mo_sumUp 41 rfl) ?_
        refine sv_imul (pc := 77) (sv_d k_Mo_sumUp 42 rfl) ?_
        refine sv_aload_n (pc := 78) 0 (sv_d k_Mo_sumUp 43 rfl) rfl rfl ?_
        refine sv_getf (pc := 79) 36 (sv_d k_Mo_sumUp 44 rfl) cf12 (by decide) w1338 kd187 (ss_lt (by decide)) (lr_187_36 E _) ?_
        refine sv_iload (pc := 82) 3 (sv_d k_Mo_sumUp 45 rfl) rfl ?_
        refine ss_iald (pc := 84) (n := 60) (sv_d k_Mo_sumUp 46 rfl) kd208 (ss_lt (by decide)) rfl ?_
        refine sv_iadd (pc := 85) (sv_d k_Mo_sumUp 47 rfl) ?_
        refine ss_iald (pc := 86) (n := 144) (sv_d k_Mo_sumUp 48 rfl) kd228 (ss_lt (by decide)) rfl ?_
        refine sv_ldcw (pc := 87) (v := (1000000000 : Int32)) w1826 (sv_d k_Mo_sumUp 49 rfl) ?_
        refine sv_icmp_lt (pc := 90) (tgt := 96) (sv_d k_Mo_sumUp 50 rfl) (by decide) ?_ ?_
        · refine sv_aload_n (pc := 96) 0 (sv_d k_Mo_sumUp 52 rfl) rfl rfl ?_
          refine sv_getf (pc := 97) 57 (sv_d k_Mo_sumUp 53 rfl) cf12 (by decide) w1359 kd187 (ss_lt (by decide)) (lr_187_57 E _) ?_
          refine sv_iload (pc := 100) 3 (sv_d k_Mo_sumUp 54 rfl) rfl ?_
          refine ss_iald (pc := 102) (n := 60) (sv_d k_Mo_sumUp 55 rfl) kd227 (ss_lt (by decide)) rfl ?_
          refine sv_aload_n (pc := 103) 0 (sv_d k_Mo_sumUp 56 rfl) rfl rfl ?_
          refine sv_getf (pc := 104) 58 (sv_d k_Mo_sumUp 57 rfl) cf12 (by decide) w1360 kd187 (ss_lt (by decide)) (lr_187_58 E _) ?_
          refine sv_bipush (pc := 107) (v := (16 : Int32)) (sv_d k_Mo_sumUp 58 rfl) (by decide) ?_
          refine sv_iload_n (pc := 109) 2 (sv_d k_Mo_sumUp 59 rfl) rfl rfl ?_
          refine sv_iconst (pc := 110) (v := (1 : Int32)) (sv_d k_Mo_sumUp 60 rfl) (by decide) ?_
          refine sv_isub (pc := 111) (sv_d k_Mo_sumUp 61 rfl) ?_
          refine sv_imul (pc := 112) (sv_d k_Mo_sumUp 62 rfl) ?_
          refine sv_aload_n (pc := 113) 0 (sv_d k_Mo_sumUp 63 rfl) rfl rfl ?_
          refine sv_getf (pc := 114) 36 (sv_d k_Mo_sumUp 64 rfl) cf12 (by decide) w1338 kd187 (ss_lt (by decide)) (lr_187_36 E _) ?_
          refine sv_iload (pc := 117) 3 (sv_d k_Mo_sumUp 65 rfl) rfl ?_
          refine ss_iald (pc := 119) (n := 60) (sv_d k_Mo_sumUp 66 rfl) kd208 (ss_lt (by decide)) rfl ?_
          refine sv_iadd (pc := 120) (sv_d k_Mo_sumUp 67 rfl) ?_
          refine ss_iald (pc := 121) (n := 144) (sv_d k_Mo_sumUp 68 rfl) kd228 (ss_lt (by decide)) rfl ?_
          refine sv_iadd (pc := 122) (sv_d k_Mo_sumUp 69 rfl) ?_
          refine ss_top (fun v13 e_v13 => ?_)
          refine sv_istore (pc := 123) (lv' := [(5, .int v13), (0, sv_r E 187), (1, .int x1), (3, .int x3), (4, .int x4)]) (sv_d k_Mo_sumUp 70 rfl) (by decide) rfl ?_
          refine sv_iload (pc := 125) 0 (sv_d k_Mo_sumUp 71 rfl) rfl ?_
          refine sv_aload_n (pc := 127) 1 (sv_d k_Mo_sumUp 72 rfl) rfl rfl ?_
          refine sv_getf (pc := 128) 58 (sv_d k_Mo_sumUp 73 rfl) cf12 (by decide) w1360 kd187 (ss_lt (by decide)) (lr_187_58 E _) ?_
          refine sv_bipush (pc := 131) (v := (16 : Int32)) (sv_d k_Mo_sumUp 74 rfl) (by decide) ?_
          refine sv_iload_n (pc := 133) 3 (sv_d k_Mo_sumUp 75 rfl) rfl rfl ?_
          refine sv_imul (pc := 134) (sv_d k_Mo_sumUp 76 rfl) ?_
          refine sv_aload_n (pc := 135) 1 (sv_d k_Mo_sumUp 77 rfl) rfl rfl ?_
          refine sv_getf (pc := 136) 35 (sv_d k_Mo_sumUp 78 rfl) cf12 (by decide) w1337 kd187 (ss_lt (by decide)) (lr_187_35 E _) ?_
          refine sv_iload (pc := 139) 4 (sv_d k_Mo_sumUp 79 rfl) rfl ?_
          refine ss_iald (pc := 141) (n := 60) (sv_d k_Mo_sumUp 80 rfl) kd207 (ss_lt (by decide)) rfl ?_
          refine sv_iadd (pc := 142) (sv_d k_Mo_sumUp 81 rfl) ?_
          refine ss_iald (pc := 143) (n := 144) (sv_d k_Mo_sumUp 82 rfl) kd228 (ss_lt (by decide)) rfl ?_
          refine sv_icmp_ge (pc := 144) (tgt := 166) (sv_d k_Mo_sumUp 83 rfl) (by decide) ?_ ?_
          · exact sv_loc [1, 2, 3, 4] rfl (V_Mo_sumUp_b166 E d kc40 (F_Mo_sumUp_b49 kc40 n) hc40 ih x1 x3 x4 s)
          · refine sv_aload_n (pc := 147) 1 (sv_d k_Mo_sumUp 84 rfl) rfl rfl ?_
            refine sv_getf (pc := 148) 58 (sv_d k_Mo_sumUp 85 rfl) cf12 (by decide) w1360 kd187 (ss_lt (by decide)) (lr_187_58 E _) ?_
            refine sv_bipush (pc := 151) (v := (16 : Int32)) (sv_d k_Mo_sumUp 86 rfl) (by decide) ?_
            refine sv_iload_n (pc := 153) 3 (sv_d k_Mo_sumUp 87 rfl) rfl rfl ?_
            refine sv_imul (pc := 154) (sv_d k_Mo_sumUp 88 rfl) ?_
            refine sv_aload_n (pc := 155) 1 (sv_d k_Mo_sumUp 89 rfl) rfl rfl ?_
            refine sv_getf (pc := 156) 35 (sv_d k_Mo_sumUp 90 rfl) cf12 (by decide) w1337 kd187 (ss_lt (by decide)) (lr_187_35 E _) ?_
            refine sv_iload (pc := 159) 4 (sv_d k_Mo_sumUp 91 rfl) rfl ?_
            refine ss_iald (pc := 161) (n := 60) (sv_d k_Mo_sumUp 92 rfl) kd207 (ss_lt (by decide)) rfl ?_
            refine sv_iadd (pc := 162) (sv_d k_Mo_sumUp 93 rfl) ?_
            refine sv_iload (pc := 163) 0 (sv_d k_Mo_sumUp 94 rfl) rfl ?_
            refine ss_iast (pc := 165) (n := 144) (sv_d k_Mo_sumUp 95 rfl) kd228 (by decide) (ss_lt (by decide)) rfl (ss_lets (fun s14 e_s14 => ?_))
            exact sv_loc [1, 2, 3, 4] rfl (V_Mo_sumUp_b166 E d kc40 (F_Mo_sumUp_b49 kc40 n) hc40 ih x1 x3 x4 s14)
        · refine sv_goto (pc := 93) (tgt := 166) (sv_d k_Mo_sumUp 51 rfl) (by decide) ?_
          exact sv_loc [0, 1, 2, 3] rfl (V_Mo_sumUp_b166 E d kc40 (F_Mo_sumUp_b49 kc40 n) hc40 ih x1 x3 x4 s)
def F_Mo_sumUp_b40 : Nat → Int32 → Int32 → sv_S → Option (Int32 × sv_S)
  | 0 => fun _ _ _ => none
  | n + 1 => fun x1 x3 s =>
    if (8 : Int32) < x3 then
      ss_let (ss_setI s 187 60 (0 : Int32)) fun s2 =>
      F_Mo_sumUp_b185 ss_F x1 (1 : Int32) s2
    else
    F_Mo_sumUp_b49 (F_Mo_sumUp_b40  n) ss_F x1 x3 (0 : Int32) s
theorem V_Mo_sumUp_b40 (E : sv_E) (d : Nat) : ∀ (n : Nat) (x1 : Int32) (x3 : Int32) (s : sv_S), sv_V E m_Mo_sumUp (d + 0) ss_i 40 [(0, sv_r E 187), (1, .int x1), (3, .int x3)] [] (ss_e s) (F_Mo_sumUp_b40 n x1 x3 s) := by
  intro n
  induction n with
  | zero => intro x1 x3 s; exact sv_none
  | succ n ih =>
    intro x1 x3 s
    unfold F_Mo_sumUp_b40
    refine sv_iload_n (pc := 40) 2 (sv_d k_Mo_sumUp 22 rfl) rfl rfl ?_
    refine sv_bipush (pc := 41) (v := (8 : Int32)) (sv_d k_Mo_sumUp 23 rfl) (by decide) ?_
    refine sv_icmp_gt (pc := 43) (tgt := 178) (sv_d k_Mo_sumUp 24 rfl) (by decide) ?_ ?_
    · refine sv_aload_n (pc := 178) 0 (sv_d k_Mo_sumUp 100 rfl) rfl rfl ?_
      refine sv_iconst (pc := 179) (v := (0 : Int32)) (sv_d k_Mo_sumUp 101 rfl) (by decide) ?_
      refine ss_putI (pc := 180) 60 (sv_d k_Mo_sumUp 102 rfl) cf12 (by decide) rfl w1362 kd187 (ss_lt (by decide)) rfl rfl (fun _ => rfl) (ss_lets (fun s2 e_s2 => ?_))
      refine sv_iconst (pc := 183) (v := (1 : Int32)) (sv_d k_Mo_sumUp 103 rfl) (by decide) ?_
      refine sv_istore_n (pc := 184) (lv' := [(3, .int (1 : Int32)), (0, sv_r E 187), (1, .int x1)]) (sv_d k_Mo_sumUp 104 rfl) rfl (by decide) rfl ?_
      exact sv_loc [1, 2, 0] rfl (V_Mo_sumUp_b185 E d ss_F x1 (1 : Int32) s2)
    · refine sv_iconst (pc := 46) (v := (0 : Int32)) (sv_d k_Mo_sumUp 25 rfl) (by decide) ?_
      refine sv_istore (pc := 47) (lv' := [(4, .int (0 : Int32)), (0, sv_r E 187), (1, .int x1), (3, .int x3)]) (sv_d k_Mo_sumUp 26 rfl) (by decide) rfl ?_
      exact sv_loc [1, 2, 3, 0] rfl (V_Mo_sumUp_b49 E d (F_Mo_sumUp_b40  n) ih ss_F x1 x3 (0 : Int32) s)
def F_Mo_sumUp_b31 (kc7 : Int32 → Int32 → Int32 → sv_S → Option (Int32 × sv_S)) (x1 : Int32) (x2 : Int32) (x3 : Int32) (t1 : Int32) (t2 : Int32) (s : sv_S) : Option (Int32 × sv_S) :=
  if sv_ib t1 144 = true then
    ss_let (ss_setI s 228 t1.toNatClampNeg t2) fun s15 =>
    ss_let (x3 + (1 : Int32)) fun v16 =>
    kc7 x1 x2 v16 s15
  else none
theorem V_Mo_sumUp_b31 (E : sv_E) (d : Nat) (kc7 : Int32 → Int32 → Int32 → sv_S → Option (Int32 × sv_S)) (hc7 : ∀ (x1 : Int32) (x2 : Int32) (x3 : Int32) (s : sv_S), sv_V E m_Mo_sumUp (d + 0) ss_i 7 [(0, sv_r E 187), (1, .int x1), (2, .int x2), (3, .int x3)] [] (ss_e s) (kc7 x1 x2 x3 s)) (x1 : Int32) (x2 : Int32) (x3 : Int32) (t1 : Int32) (t2 : Int32) (s : sv_S) : sv_V E m_Mo_sumUp (d + 0) ss_i 31 [(0, sv_r E 187), (1, .int x1), (2, .int x2), (3, .int x3)] [.int t2, .int t1, sv_r E 228] (ss_e s) (F_Mo_sumUp_b31 kc7 x1 x2 x3 t1 t2 s) := by
  unfold F_Mo_sumUp_b31
  refine ss_iast (pc := 31) (n := 144) (sv_d k_Mo_sumUp 17 rfl) kd228 (by decide) (ss_lt (by decide)) rfl (ss_lets (fun s15 e_s15 => ?_))
  refine ss_letr (fun v16 e_v16 => ?_)
  refine sv_iinc (pc := 32) (v := v16) (lv' := [(3, .int v16), (0, sv_r E 187), (1, .int x1), (2, .int x2)]) (sv_d k_Mo_sumUp 18 rfl) (n := 3) rfl (by rw [e_v16]; rfl) (by decide) rfl ?_
  refine sv_goto (pc := 35) (tgt := 7) (sv_d k_Mo_sumUp 19 rfl) (by decide) ?_
  exact sv_loc [1, 2, 3, 0] rfl (hc7 x1 x2 v16 s15)
def F_Mo_sumUp_b7 : Nat → Int32 → Int32 → Int32 → sv_S → Option (Int32 × sv_S)
  | 0 => fun _ _ _ _ => none
  | n + 1 => fun x1 x2 x3 s =>
    if (144 : Int32) ≤ x3 then
      F_Mo_sumUp_b40 ss_F x1 (1 : Int32) s
    else
    if x3 = x2 then
      F_Mo_sumUp_b31 (F_Mo_sumUp_b7  n) x1 x2 x3 x3 (0 : Int32) s
    else
    F_Mo_sumUp_b31 (F_Mo_sumUp_b7  n) x1 x2 x3 x3 (1000000000 : Int32) s
theorem V_Mo_sumUp_b7 (E : sv_E) (d : Nat) : ∀ (n : Nat) (x1 : Int32) (x2 : Int32) (x3 : Int32) (s : sv_S), sv_V E m_Mo_sumUp (d + 0) ss_i 7 [(0, sv_r E 187), (1, .int x1), (2, .int x2), (3, .int x3)] [] (ss_e s) (F_Mo_sumUp_b7 n x1 x2 x3 s) := by
  intro n
  induction n with
  | zero => intro x1 x2 x3 s; exact sv_none
  | succ n ih =>
    intro x1 x2 x3 s
    unfold F_Mo_sumUp_b7
    refine sv_iload_n (pc := 7) 3 (sv_d k_Mo_sumUp 5 rfl) rfl rfl ?_
    refine sv_sipush (pc := 8) (v := (144 : Int32)) (sv_d k_Mo_sumUp 6 rfl) (by decide) ?_
    refine sv_icmp_ge (pc := 11) (tgt := 38) (sv_d k_Mo_sumUp 7 rfl) (by decide) ?_ ?_
    · refine sv_iconst (pc := 38) (v := (1 : Int32)) (sv_d k_Mo_sumUp 20 rfl) (by decide) ?_
      refine sv_istore_n (pc := 39) (lv' := [(3, .int (1 : Int32)), (0, sv_r E 187), (1, .int x1), (2, .int x2)]) (sv_d k_Mo_sumUp 21 rfl) rfl (by decide) rfl ?_
      exact sv_loc [1, 2, 0] rfl (V_Mo_sumUp_b40 E d ss_F x1 (1 : Int32) s)
    · refine sv_aload_n (pc := 14) 0 (sv_d k_Mo_sumUp 8 rfl) rfl rfl ?_
      refine sv_getf (pc := 15) 58 (sv_d k_Mo_sumUp 9 rfl) cf12 (by decide) w1360 kd187 (ss_lt (by decide)) (lr_187_58 E _) ?_
      refine sv_iload_n (pc := 18) 3 (sv_d k_Mo_sumUp 10 rfl) rfl rfl ?_
      refine sv_iload_n (pc := 19) 3 (sv_d k_Mo_sumUp 11 rfl) rfl rfl ?_
      refine sv_iload_n (pc := 20) 2 (sv_d k_Mo_sumUp 12 rfl) rfl rfl ?_
      refine sv_icmp_ne (pc := 21) (tgt := 28) (sv_d k_Mo_sumUp 13 rfl) (by decide) ?_ ?_
      · refine sv_ldcw (pc := 28) (v := (1000000000 : Int32)) w1826 (sv_d k_Mo_sumUp 16 rfl) ?_
        exact sv_loc [0, 1, 2, 3] rfl (V_Mo_sumUp_b31 E d (F_Mo_sumUp_b7  n) ih x1 x2 x3 x3 (1000000000 : Int32) s)
      · refine sv_iconst (pc := 24) (v := (0 : Int32)) (sv_d k_Mo_sumUp 14 rfl) (by decide) ?_
        refine sv_goto (pc := 25) (tgt := 31) (sv_d k_Mo_sumUp 15 rfl) (by decide) ?_
        exact sv_loc [0, 1, 2, 3] rfl (V_Mo_sumUp_b31 E d (F_Mo_sumUp_b7  n) ih x1 x2 x3 x3 (0 : Int32) s)
def F_Mo_sumUp (x1 : Int32) (x2 : Int32) (s : sv_S) : Option (Int32 × sv_S) :=
  ss_let (ss_setI s 187 59 x2) fun s1 =>
  F_Mo_sumUp_b7 ss_F x1 x2 (0 : Int32) s1
theorem V_Mo_sumUp (E : sv_E) (d : Nat) (x1 : Int32) (x2 : Int32) (s : sv_S) : sv_V E m_Mo_sumUp (d + 0) ss_i 0 (lv_args 0 [sv_r E 187, .int x1, .int x2]) [] (ss_e s) (F_Mo_sumUp x1 x2 s) := by
  show sv_V E m_Mo_sumUp (d + 0) ss_i 0 [(0, sv_r E 187), (1, .int x1), (2, .int x2)] [] (ss_e s) _
  unfold F_Mo_sumUp
  refine sv_aload_n (pc := 0) 0 (sv_d k_Mo_sumUp 0 rfl) rfl rfl ?_
  refine sv_iload_n (pc := 1) 2 (sv_d k_Mo_sumUp 1 rfl) rfl rfl ?_
  refine ss_putI (pc := 2) 59 (sv_d k_Mo_sumUp 2 rfl) cf12 (by decide) rfl w1361 kd187 (ss_lt (by decide)) rfl rfl (fun _ => rfl) (ss_lets (fun s1 e_s1 => ?_))
  refine sv_iconst (pc := 5) (v := (0 : Int32)) (sv_d k_Mo_sumUp 3 rfl) (by decide) ?_
  refine sv_istore_n (pc := 6) (lv' := [(3, .int (0 : Int32)), (0, sv_r E 187), (1, .int x1), (2, .int x2)]) (sv_d k_Mo_sumUp 4 rfl) rfl (by decide) rfl ?_
  exact sv_loc [1, 2, 3, 0] rfl (V_Mo_sumUp_b7 E d ss_F x1 x2 (0 : Int32) s1)
/-! Mo_findCheap -/
abbrev m_Mo_findCheap : sv_M := (yX12_findCheap, cX12_findCheap, 7, (some .boolean))
def t_Mo_findCheap : List (Nat × Instr × Nat) := [(0, .iconst 0, 1), (1, .istore 6, 2), (3, .iload 6, 2), (5, .aload_n 0, 1), (6, .getfield 109, 3), (9, .if_icmp .ge 27, 3), (12, .aload_n 0, 1), (13, .getfield 184, 3), (16, .iload 6, 2), (18, .aload_n 0, 1), (19, .iload 6, 2), (21, .iload_n 3, 1), (22, .iload 4, 2), (24, .iload 5, 2), (26, .invokevirtual 385, 3), (29, .iastore, 1), (30, .iinc 6 1, 3), (33, .goto (-30), 3), (36, .aload_n 0, 1), (37, .iload_n 1, 1), (38, .iload_n 2, 1), (39, .invokevirtual 422, 3), (42, .ireturn, 1)]
theorem k_Mo_findCheap : sv_tk m_Mo_findCheap.2.1 t_Mo_findCheap := by decide +kernel
theorem g_Mo_findCheap : sv_G m_Mo_findCheap 5 := ⟨by decide +kernel, sv_in 1821 (by decide +kernel) rfl, sv_in 103 (by decide +kernel) rfl, ⟨by decide, by decide⟩, by decide +kernel, by decide⟩
theorem in_Mo_findCheap : Cond.instanceMethod m_Mo_findCheap.1 ∈ sv_T := sv_in 1820 (by decide +kernel) rfl
theorem se_Mo_findCheap : Cond.selects m_Mo_findCheap.1.cls m_Mo_findCheap.1 m_Mo_findCheap.1 ∈ sv_T := sv_in 75 (by decide +kernel) rfl
def F_Mo_findCheap_b3 : Nat → Int32 → Int32 → Int32 → Int32 → Int32 → Int32 → sv_S → Option (Int32 × sv_S)
  | 0 => fun _ _ _ _ _ _ _ => none
  | n + 1 => fun x1 x2 x3 x4 x5 x6 s =>
    if (s.1 187 32) ≤ x6 then
      (F_Mo_sumUp x1 x2 s).bind fun r1 =>
      if sv_bl r1.1 = true then some (r1.1, r1.2) else none
    else
    (F_Mo_chargeOf x6 x3 x4 x5 s).bind fun r3 =>
    if sv_ib x6 60 = true then
      ss_let (ss_setI s 227 x6.toNatClampNeg r3) fun s4 =>
      ss_let (x6 + (1 : Int32)) fun v5 =>
      F_Mo_findCheap_b3  n x1 x2 x3 x4 x5 v5 s4
    else none
theorem V_Mo_findCheap_b3 (E : sv_E) (d : Nat) : ∀ (n : Nat) (x1 : Int32) (x2 : Int32) (x3 : Int32) (x4 : Int32) (x5 : Int32) (x6 : Int32) (s : sv_S), sv_V E m_Mo_findCheap (d + 1) ss_i 3 [(0, sv_r E 187), (1, .int x1), (2, .int x2), (3, .int x3), (4, .int x4), (5, .int x5), (6, .int x6)] [] (ss_e s) (F_Mo_findCheap_b3 n x1 x2 x3 x4 x5 x6 s) := by
  intro n
  induction n with
  | zero => intro x1 x2 x3 x4 x5 x6 s; exact sv_none
  | succ n ih =>
    intro x1 x2 x3 x4 x5 x6 s
    unfold F_Mo_findCheap_b3
    refine sv_iload (pc := 3) 6 (sv_d k_Mo_findCheap 2 rfl) rfl ?_
    refine sv_aload_n (pc := 5) 0 (sv_d k_Mo_findCheap 3 rfl) rfl rfl ?_
    refine sv_getf (pc := 6) 32 (sv_d k_Mo_findCheap 4 rfl) cf12 (by decide) w1334 kd187 (ss_lt (by decide)) rfl ?_
    refine sv_icmp_ge (pc := 9) (tgt := 36) (sv_d k_Mo_findCheap 5 rfl) (by decide) ?_ ?_
    · refine sv_aload_n (pc := 36) 0 (sv_d k_Mo_findCheap 18 rfl) rfl rfl ?_
      refine sv_iload_n (pc := 37) 1 (sv_d k_Mo_findCheap 19 rfl) rfl rfl ?_
      refine sv_iload_n (pc := 38) 2 (sv_d k_Mo_findCheap 20 rfl) rfl rfl ?_
      refine sv_callV (pc := 39) (ψ := ss_i) (As := [.int x1, .int x2]) (rest := []) (c := 187) (sv_d k_Mo_findCheap 21 rfl) g_Mo_sumUp w1822 in_Mo_sumUp se_Mo_sumUp cf12 kd187 (ss_lt (by decide)) rfl (Nat.le_of_ble_eq_true rfl) (V_Mo_sumUp E (d + 0) x1 x2 s) (Nat.le_of_ble_eq_true rfl) rfl (fun r1 => ?_)
      show sv_V E _ _ _ 42 _ [.int r1.1] (ss_e r1.2) _
      exact ss_grd (fun bb2 => sv_ret (pc := 42) (sv_d k_Mo_findCheap 22 rfl) ⟨_, rfl, sv_bln bb2⟩ rfl)
    · refine sv_aload_n (pc := 12) 0 (sv_d k_Mo_findCheap 6 rfl) rfl rfl ?_
      refine sv_getf (pc := 13) 57 (sv_d k_Mo_findCheap 7 rfl) cf12 (by decide) w1359 kd187 (ss_lt (by decide)) (lr_187_57 E _) ?_
      refine sv_iload (pc := 16) 6 (sv_d k_Mo_findCheap 8 rfl) rfl ?_
      refine sv_aload_n (pc := 18) 0 (sv_d k_Mo_findCheap 9 rfl) rfl rfl ?_
      refine sv_iload (pc := 19) 6 (sv_d k_Mo_findCheap 10 rfl) rfl ?_
      refine sv_iload_n (pc := 21) 3 (sv_d k_Mo_findCheap 11 rfl) rfl rfl ?_
      refine sv_iload (pc := 22) 4 (sv_d k_Mo_findCheap 12 rfl) rfl ?_
      refine sv_iload (pc := 24) 5 (sv_d k_Mo_findCheap 13 rfl) rfl ?_
      refine sv_callV (pc := 26) (ψ := (ss_pi s)) (As := [.int x6, .int x3, .int x4, .int x5]) (rest := [.int x6, sv_r E 227]) (c := 187) (sv_d k_Mo_findCheap 14 rfl) g_Mo_chargeOf w1738 in_Mo_chargeOf se_Mo_chargeOf cf12 kd187 (ss_lt (by decide)) rfl (Nat.le_of_ble_eq_true rfl) (V_Mo_chargeOf E (d + 0) x6 x3 x4 x5 s) (Nat.le_of_ble_eq_true rfl) rfl (fun r3 => ?_)
      show sv_V E _ _ _ 29 _ [.int r3, .int x6, sv_r E 227] (ss_e s) _
      refine ss_iast (pc := 29) (n := 60) (sv_d k_Mo_findCheap 15 rfl) kd227 (by decide) (ss_lt (by decide)) rfl (ss_lets (fun s4 e_s4 => ?_))
      refine ss_letr (fun v5 e_v5 => ?_)
      refine sv_iinc (pc := 30) (v := v5) (lv' := [(6, .int v5), (0, sv_r E 187), (1, .int x1), (2, .int x2), (3, .int x3), (4, .int x4), (5, .int x5)]) (sv_d k_Mo_findCheap 16 rfl) (n := 6) rfl (by rw [e_v5]; rfl) (by decide) rfl ?_
      refine sv_goto (pc := 33) (tgt := 3) (sv_d k_Mo_findCheap 17 rfl) (by decide) ?_
      exact sv_loc [1, 2, 3, 4, 5, 6, 0] rfl (ih x1 x2 x3 x4 x5 v5 s4)
def F_Mo_findCheap (x1 : Int32) (x2 : Int32) (x3 : Int32) (x4 : Int32) (x5 : Int32) (s : sv_S) : Option (Int32 × sv_S) :=
  F_Mo_findCheap_b3 ss_F x1 x2 x3 x4 x5 (0 : Int32) s
theorem V_Mo_findCheap (E : sv_E) (d : Nat) (x1 : Int32) (x2 : Int32) (x3 : Int32) (x4 : Int32) (x5 : Int32) (s : sv_S) : sv_V E m_Mo_findCheap (d + 1) ss_i 0 (lv_args 0 [sv_r E 187, .int x1, .int x2, .int x3, .int x4, .int x5]) [] (ss_e s) (F_Mo_findCheap x1 x2 x3 x4 x5 s) := by
  show sv_V E m_Mo_findCheap (d + 1) ss_i 0 [(0, sv_r E 187), (1, .int x1), (2, .int x2), (3, .int x3), (4, .int x4), (5, .int x5)] [] (ss_e s) _
  unfold F_Mo_findCheap
  refine sv_iconst (pc := 0) (v := (0 : Int32)) (sv_d k_Mo_findCheap 0 rfl) (by decide) ?_
  refine sv_istore (pc := 1) (lv' := [(6, .int (0 : Int32)), (0, sv_r E 187), (1, .int x1), (2, .int x2), (3, .int x3), (4, .int x4), (5, .int x5)]) (sv_d k_Mo_findCheap 1 rfl) (by decide) rfl ?_
  exact sv_loc [1, 2, 3, 4, 5, 6, 0] rfl (V_Mo_findCheap_b3 E d ss_F x1 x2 x3 x4 x5 (0 : Int32) s)
/-! Mo_cheap -/
abbrev m_Mo_cheap : sv_M := (yX12_cheap, cX12_cheap, 7, (some .int))
def t_Mo_cheap : List (Nat × Instr × Nat) := [(0, .aload_n 0, 1), (1, .iload_n 1, 1), (2, .invokevirtual 259, 3), (5, .ifCond .eq 36, 3), (8, .aload_n 0, 1), (9, .iload_n 2, 1), (10, .invokevirtual 259, 3), (13, .ifCond .eq 28, 3), (16, .aload_n 0, 1), (17, .iload_n 3, 1), (18, .invokevirtual 369, 3), (21, .ifCond .eq 20, 3), (24, .iload 6, 2), (26, .ifCond .lt 15, 3), (29, .aload_n 0, 1), (30, .iload 6, 2), (32, .iconst 2, 1), (33, .bipush 9, 2), (35, .invokevirtual 251, 3), (38, .ifCond .eq 5, 3), (41, .iconst (-1), 1), (42, .ireturn, 1), (43, .iload_n 1, 1), (44, .iload_n 2, 1), (45, .if_icmp .eq 21, 3), (48, .aload_n 0, 1), (49, .iload 4, 2), (51, .invokevirtual 379, 3), (54, .ifCond .eq 12, 3), (57, .aload_n 0, 1), (58, .iload 5, 2), (60, .invokevirtual 346, 3), (63, .ifCond .ne 6, 3), (66, .bipush (-2), 2), (68, .ireturn, 1), (69, .aload_n 0, 1), (70, .iload 5, 2), (72, .invokevirtual 382, 3), (75, .aload_n 0, 1), (76, .iload_n 1, 1), (77, .iload_n 2, 1), (78, .iload_n 3, 1), (79, .iload 4, 2), (81, .iload 5, 2), (83, .invokevirtual 426, 3), (86, .ifCond .ne 6, 3), (89, .bipush (-3), 2), (91, .ireturn, 1), (92, .iload 6, 2), (94, .ifCond .ne 10, 3), (97, .aload_n 0, 1), (98, .getfield 196, 3), (101, .goto 42, 3), (104, .iload 6, 2), (106, .iconst 1, 1), (107, .if_icmp .ne 10, 3), (110, .aload_n 0, 1), (111, .getfield 193, 3), (114, .goto 29, 3), (117, .iload 6, 2), (119, .bipush 10, 2), (121, .isub, 1), (122, .aload_n 0, 1), (123, .getfield 193, 3), (126, .if_icmp .ge 16, 3), (129, .aload_n 0, 1), (130, .getfield 199, 3), (133, .iload 6, 2), (135, .bipush 10, 2), (137, .isub, 1), (138, .iaload, 1), (139, .goto 4, 3), (142, .iconst (-1), 1), (143, .ireturn, 1)]
theorem k_Mo_cheap : sv_tk m_Mo_cheap.2.1 t_Mo_cheap := by decide +kernel
theorem g_Mo_cheap : sv_G m_Mo_cheap 6 := ⟨by decide +kernel, sv_in 1817 (by decide +kernel) rfl, sv_in 103 (by decide +kernel) rfl, ⟨by decide, by decide⟩, by decide +kernel, by decide⟩
theorem in_Mo_cheap : Cond.instanceMethod m_Mo_cheap.1 ∈ sv_T := sv_in 1815 (by decide +kernel) rfl
theorem se_Mo_cheap : Cond.selects m_Mo_cheap.1.cls m_Mo_cheap.1 m_Mo_cheap.1 ∈ sv_T := sv_in 1816 (by decide +kernel) rfl
def F_Mo_cheap (x1 : Int32) (x2 : Int32) (x3 : Int32) (x4 : Int32) (x5 : Int32) (x6 : Int32) (s : sv_S) : Option (Int32 × sv_S) :=
  (F_Mo_isStation x1 s).bind fun r1 =>
  if r1 = 0 then
    some ((-1 : Int32), s)
  else
  (F_Mo_isStation x2 s).bind fun r2 =>
  if r2 = 0 then
    some ((-1 : Int32), s)
  else
  (F_Mo_isGood x3 s).bind fun r3 =>
  if r3 = 0 then
    some ((-1 : Int32), s)
  else
  if x6 < 0 then
    some ((-1 : Int32), s)
  else
  (F_Mo_in x6 (2 : Int32) (9 : Int32) s).bind fun r4 =>
  if r4 = 0 then
    if x1 = x2 then
      some ((-2 : Int32), s)
    else
    (F_Mo_isTons x4 s).bind fun r5 =>
    if r5 = 0 then
      some ((-2 : Int32), s)
    else
    (F_Mo_isDay x5 s).bind fun r6 =>
    if r6 = 0 then
      some ((-2 : Int32), s)
    else
    (F_Mo_prepare x5 s).bind fun r7 =>
    (F_Mo_findCheap x1 x2 x3 x4 x5 r7).bind fun r8 =>
    if r8.1 = 0 then
      some ((-3 : Int32), r8.2)
    else
    if x6 = 0 then
      some (r8.2.1 187 61, r8.2)
    else
    if x6 = (1 : Int32) then
      some (r8.2.1 187 60, r8.2)
    else
    if (r8.2.1 187 60) ≤ (x6 - (10 : Int32)) then
      some ((-1 : Int32), r8.2)
    else
    if sv_ib (x6 - (10 : Int32)) 8 = true then
      some (r8.2.1 229 (x6 - (10 : Int32)).toNatClampNeg, r8.2)
    else none
  else
  some ((-1 : Int32), s)
theorem V_Mo_cheap (E : sv_E) (d : Nat) (x1 : Int32) (x2 : Int32) (x3 : Int32) (x4 : Int32) (x5 : Int32) (x6 : Int32) (s : sv_S) : sv_V E m_Mo_cheap (d + 9) ss_i 0 (lv_args 0 [sv_r E 187, .int x1, .int x2, .int x3, .int x4, .int x5, .int x6]) [] (ss_e s) (F_Mo_cheap x1 x2 x3 x4 x5 x6 s) := by
  show sv_V E m_Mo_cheap (d + 9) ss_i 0 [(0, sv_r E 187), (1, .int x1), (2, .int x2), (3, .int x3), (4, .int x4), (5, .int x5), (6, .int x6)] [] (ss_e s) _
  unfold F_Mo_cheap
  refine sv_aload_n (pc := 0) 0 (sv_d k_Mo_cheap 0 rfl) rfl rfl ?_
  refine sv_iload_n (pc := 1) 1 (sv_d k_Mo_cheap 1 rfl) rfl rfl ?_
  refine sv_callV (pc := 2) (ψ := (ss_pi s)) (As := [.int x1]) (rest := []) (c := 187) (sv_d k_Mo_cheap 2 rfl) g_Mo_isStation w1557 in_Mo_isStation se_Mo_isStation cf12 kd187 (ss_lt (by decide)) rfl (Nat.le_of_ble_eq_true rfl) (V_Mo_isStation E (d + 7) x1 s) (Nat.le_of_ble_eq_true rfl) rfl (fun r1 => ?_)
  show sv_V E _ _ _ 5 _ [.int r1] (ss_e s) _
  refine sv_if_eq (pc := 5) (tgt := 41) (sv_d k_Mo_cheap 3 rfl) (by decide) ?_ ?_
  · refine sv_iconst (pc := 41) (v := (-1 : Int32)) (sv_d k_Mo_cheap 20 rfl) (by decide) ?_
    exact sv_ret (pc := 42) (sv_d k_Mo_cheap 21 rfl) ⟨_, rfl, rfl⟩ rfl
  · refine sv_aload_n (pc := 8) 0 (sv_d k_Mo_cheap 4 rfl) rfl rfl ?_
    refine sv_iload_n (pc := 9) 2 (sv_d k_Mo_cheap 5 rfl) rfl rfl ?_
    refine sv_callV (pc := 10) (ψ := (ss_pi s)) (As := [.int x2]) (rest := []) (c := 187) (sv_d k_Mo_cheap 6 rfl) g_Mo_isStation w1557 in_Mo_isStation se_Mo_isStation cf12 kd187 (ss_lt (by decide)) rfl (Nat.le_of_ble_eq_true rfl) (V_Mo_isStation E (d + 7) x2 s) (Nat.le_of_ble_eq_true rfl) rfl (fun r2 => ?_)
    show sv_V E _ _ _ 13 _ [.int r2] (ss_e s) _
    refine sv_if_eq (pc := 13) (tgt := 41) (sv_d k_Mo_cheap 7 rfl) (by decide) ?_ ?_
    · refine sv_iconst (pc := 41) (v := (-1 : Int32)) (sv_d k_Mo_cheap 20 rfl) (by decide) ?_
      exact sv_ret (pc := 42) (sv_d k_Mo_cheap 21 rfl) ⟨_, rfl, rfl⟩ rfl
    · refine sv_aload_n (pc := 16) 0 (sv_d k_Mo_cheap 8 rfl) rfl rfl ?_
      refine sv_iload_n (pc := 17) 3 (sv_d k_Mo_cheap 9 rfl) rfl rfl ?_
      refine sv_callV (pc := 18) (ψ := (ss_pi s)) (As := [.int x3]) (rest := []) (c := 187) (sv_d k_Mo_cheap 10 rfl) g_Mo_isGood w1698 in_Mo_isGood se_Mo_isGood cf12 kd187 (ss_lt (by decide)) rfl (Nat.le_of_ble_eq_true rfl) (V_Mo_isGood E (d + 7) x3 s) (Nat.le_of_ble_eq_true rfl) rfl (fun r3 => ?_)
      show sv_V E _ _ _ 21 _ [.int r3] (ss_e s) _
      refine sv_if_eq (pc := 21) (tgt := 41) (sv_d k_Mo_cheap 11 rfl) (by decide) ?_ ?_
      · refine sv_iconst (pc := 41) (v := (-1 : Int32)) (sv_d k_Mo_cheap 20 rfl) (by decide) ?_
        exact sv_ret (pc := 42) (sv_d k_Mo_cheap 21 rfl) ⟨_, rfl, rfl⟩ rfl
      · refine sv_iload (pc := 24) 6 (sv_d k_Mo_cheap 12 rfl) rfl ?_
        refine sv_if_lt (pc := 26) (tgt := 41) (sv_d k_Mo_cheap 13 rfl) (by decide) ?_ ?_
        · refine sv_iconst (pc := 41) (v := (-1 : Int32)) (sv_d k_Mo_cheap 20 rfl) (by decide) ?_
          exact sv_ret (pc := 42) (sv_d k_Mo_cheap 21 rfl) ⟨_, rfl, rfl⟩ rfl
        · refine sv_aload_n (pc := 29) 0 (sv_d k_Mo_cheap 14 rfl) rfl rfl ?_
          refine sv_iload (pc := 30) 6 (sv_d k_Mo_cheap 15 rfl) rfl ?_
          refine sv_iconst (pc := 32) (v := (2 : Int32)) (sv_d k_Mo_cheap 16 rfl) (by decide) ?_
          refine sv_bipush (pc := 33) (v := (9 : Int32)) (sv_d k_Mo_cheap 17 rfl) (by decide) ?_
          refine sv_callV (pc := 35) (ψ := (ss_pi s)) (As := [.int x6, .int (2 : Int32), .int (9 : Int32)]) (rest := []) (c := 187) (sv_d k_Mo_cheap 18 rfl) g_Mo_in w1545 in_Mo_in se_Mo_in cf12 kd187 (ss_lt (by decide)) rfl (Nat.le_of_ble_eq_true rfl) (V_Mo_in E (d + 8) x6 (2 : Int32) (9 : Int32) s) (Nat.le_of_ble_eq_true rfl) rfl (fun r4 => ?_)
          show sv_V E _ _ _ 38 _ [.int r4] (ss_e s) _
          refine sv_if_eq (pc := 38) (tgt := 43) (sv_d k_Mo_cheap 19 rfl) (by decide) ?_ ?_
          · refine sv_iload_n (pc := 43) 1 (sv_d k_Mo_cheap 22 rfl) rfl rfl ?_
            refine sv_iload_n (pc := 44) 2 (sv_d k_Mo_cheap 23 rfl) rfl rfl ?_
            refine sv_icmp_eq (pc := 45) (tgt := 66) (sv_d k_Mo_cheap 24 rfl) (by decide) ?_ ?_
            · refine sv_bipush (pc := 66) (v := (-2 : Int32)) (sv_d k_Mo_cheap 33 rfl) (by decide) ?_
              exact sv_ret (pc := 68) (sv_d k_Mo_cheap 34 rfl) ⟨_, rfl, rfl⟩ rfl
            · refine sv_aload_n (pc := 48) 0 (sv_d k_Mo_cheap 25 rfl) rfl rfl ?_
              refine sv_iload (pc := 49) 4 (sv_d k_Mo_cheap 26 rfl) rfl ?_
              refine sv_callV (pc := 51) (ψ := (ss_pi s)) (As := [.int x4]) (rest := []) (c := 187) (sv_d k_Mo_cheap 27 rfl) g_Mo_isTons w1730 in_Mo_isTons se_Mo_isTons cf12 kd187 (ss_lt (by decide)) rfl (Nat.le_of_ble_eq_true rfl) (V_Mo_isTons E (d + 7) x4 s) (Nat.le_of_ble_eq_true rfl) rfl (fun r5 => ?_)
              show sv_V E _ _ _ 54 _ [.int r5] (ss_e s) _
              refine sv_if_eq (pc := 54) (tgt := 66) (sv_d k_Mo_cheap 28 rfl) (by decide) ?_ ?_
              · refine sv_bipush (pc := 66) (v := (-2 : Int32)) (sv_d k_Mo_cheap 33 rfl) (by decide) ?_
                exact sv_ret (pc := 68) (sv_d k_Mo_cheap 34 rfl) ⟨_, rfl, rfl⟩ rfl
              · refine sv_aload_n (pc := 57) 0 (sv_d k_Mo_cheap 29 rfl) rfl rfl ?_
                refine sv_iload (pc := 58) 5 (sv_d k_Mo_cheap 30 rfl) rfl ?_
                refine sv_callV (pc := 60) (ψ := (ss_pi s)) (As := [.int x5]) (rest := []) (c := 187) (sv_d k_Mo_cheap 31 rfl) g_Mo_isDay w1594 in_Mo_isDay se_Mo_isDay cf12 kd187 (ss_lt (by decide)) rfl (Nat.le_of_ble_eq_true rfl) (V_Mo_isDay E (d + 7) x5 s) (Nat.le_of_ble_eq_true rfl) rfl (fun r6 => ?_)
                show sv_V E _ _ _ 63 _ [.int r6] (ss_e s) _
                refine sv_if_ne (pc := 63) (tgt := 69) (sv_d k_Mo_cheap 32 rfl) (by decide) ?_ ?_
                · refine sv_aload_n (pc := 69) 0 (sv_d k_Mo_cheap 35 rfl) rfl rfl ?_
                  refine sv_iload (pc := 70) 5 (sv_d k_Mo_cheap 36 rfl) rfl ?_
                  refine sv_callV (pc := 72) (ψ := ss_v) (As := [.int x5]) (rest := []) (c := 187) (sv_d k_Mo_cheap 37 rfl) g_Mo_prepare w1734 in_Mo_prepare se_Mo_prepare cf12 kd187 (ss_lt (by decide)) rfl (Nat.le_of_ble_eq_true rfl) (V_Mo_prepare E (d + 0) x5 s) (Nat.le_of_ble_eq_true rfl) rfl (fun r7 => ?_)
                  show sv_V E _ _ _ 75 _ [] (ss_e r7) _
                  refine sv_aload_n (pc := 75) 0 (sv_d k_Mo_cheap 38 rfl) rfl rfl ?_
                  refine sv_iload_n (pc := 76) 1 (sv_d k_Mo_cheap 39 rfl) rfl rfl ?_
                  refine sv_iload_n (pc := 77) 2 (sv_d k_Mo_cheap 40 rfl) rfl rfl ?_
                  refine sv_iload_n (pc := 78) 3 (sv_d k_Mo_cheap 41 rfl) rfl rfl ?_
                  refine sv_iload (pc := 79) 4 (sv_d k_Mo_cheap 42 rfl) rfl ?_
                  refine sv_iload (pc := 81) 5 (sv_d k_Mo_cheap 43 rfl) rfl ?_
                  refine sv_callV (pc := 83) (ψ := ss_i) (As := [.int x1, .int x2, .int x3, .int x4, .int x5]) (rest := []) (c := 187) (sv_d k_Mo_cheap 44 rfl) g_Mo_findCheap w1818 in_Mo_findCheap se_Mo_findCheap cf12 kd187 (ss_lt (by decide)) rfl (Nat.le_of_ble_eq_true rfl) (V_Mo_findCheap E (d + 7) x1 x2 x3 x4 x5 r7) (Nat.le_of_ble_eq_true rfl) rfl (fun r8 => ?_)
                  show sv_V E _ _ _ 86 _ [.int r8.1] (ss_e r8.2) _
                  refine sv_if_ne (pc := 86) (tgt := 92) (sv_d k_Mo_cheap 45 rfl) (by decide) ?_ ?_
                  · refine sv_iload (pc := 92) 6 (sv_d k_Mo_cheap 48 rfl) rfl ?_
                    refine sv_if_ne (pc := 94) (tgt := 104) (sv_d k_Mo_cheap 49 rfl) (by decide) ?_ ?_
                    · refine sv_iload (pc := 104) 6 (sv_d k_Mo_cheap 53 rfl) rfl ?_
                      refine sv_iconst (pc := 106) (v := (1 : Int32)) (sv_d k_Mo_cheap 54 rfl) (by decide) ?_
                      refine sv_icmp_ne (pc := 107) (tgt := 117) (sv_d k_Mo_cheap 55 rfl) (by decide) ?_ ?_
                      · refine sv_iload (pc := 117) 6 (sv_d k_Mo_cheap 59 rfl) rfl ?_
                        refine sv_bipush (pc := 119) (v := (10 : Int32)) (sv_d k_Mo_cheap 60 rfl) (by decide) ?_
                        refine sv_isub (pc := 121) (sv_d k_Mo_cheap 61 rfl) ?_
                        refine sv_aload_n (pc := 122) 0 (sv_d k_Mo_cheap 62 rfl) rfl rfl ?_
                        refine sv_getf (pc := 123) 60 (sv_d k_Mo_cheap 63 rfl) cf12 (by decide) w1362 kd187 (ss_lt (by decide)) rfl ?_
                        refine sv_icmp_ge (pc := 126) (tgt := 142) (sv_d k_Mo_cheap 64 rfl) (by decide) ?_ ?_
                        · refine sv_iconst (pc := 142) (v := (-1 : Int32)) (sv_d k_Mo_cheap 72 rfl) (by decide) ?_
                          exact sv_ret (pc := 143) (sv_d k_Mo_cheap 73 rfl) ⟨_, rfl, rfl⟩ rfl
                        · refine sv_aload_n (pc := 129) 0 (sv_d k_Mo_cheap 65 rfl) rfl rfl ?_
                          refine sv_getf (pc := 130) 62 (sv_d k_Mo_cheap 66 rfl) cf12 (by decide) w1364 kd187 (ss_lt (by decide)) (lr_187_62 E _) ?_
                          refine sv_iload (pc := 133) 6 (sv_d k_Mo_cheap 67 rfl) rfl ?_
                          refine sv_bipush (pc := 135) (v := (10 : Int32)) (sv_d k_Mo_cheap 68 rfl) (by decide) ?_
                          refine sv_isub (pc := 137) (sv_d k_Mo_cheap 69 rfl) ?_
                          refine ss_iald (pc := 138) (n := 8) (sv_d k_Mo_cheap 70 rfl) kd229 (ss_lt (by decide)) rfl ?_
                          refine sv_goto (pc := 139) (tgt := 143) (sv_d k_Mo_cheap 71 rfl) (by decide) ?_
                          exact sv_ret (pc := 143) (sv_d k_Mo_cheap 73 rfl) ⟨_, rfl, rfl⟩ rfl
                      · refine sv_aload_n (pc := 110) 0 (sv_d k_Mo_cheap 56 rfl) rfl rfl ?_
                        refine sv_getf (pc := 111) 60 (sv_d k_Mo_cheap 57 rfl) cf12 (by decide) w1362 kd187 (ss_lt (by decide)) rfl ?_
                        refine sv_goto (pc := 114) (tgt := 143) (sv_d k_Mo_cheap 58 rfl) (by decide) ?_
                        exact sv_ret (pc := 143) (sv_d k_Mo_cheap 73 rfl) ⟨_, rfl, rfl⟩ rfl
                    · refine sv_aload_n (pc := 97) 0 (sv_d k_Mo_cheap 50 rfl) rfl rfl ?_
                      refine sv_getf (pc := 98) 61 (sv_d k_Mo_cheap 51 rfl) cf12 (by decide) w1363 kd187 (ss_lt (by decide)) rfl ?_
                      refine sv_goto (pc := 101) (tgt := 143) (sv_d k_Mo_cheap 52 rfl) (by decide) ?_
                      exact sv_ret (pc := 143) (sv_d k_Mo_cheap 73 rfl) ⟨_, rfl, rfl⟩ rfl
                  · refine sv_bipush (pc := 89) (v := (-3 : Int32)) (sv_d k_Mo_cheap 46 rfl) (by decide) ?_
                    exact sv_ret (pc := 91) (sv_d k_Mo_cheap 47 rfl) ⟨_, rfl, rfl⟩ rfl
                · refine sv_bipush (pc := 66) (v := (-2 : Int32)) (sv_d k_Mo_cheap 33 rfl) (by decide) ?_
                  exact sv_ret (pc := 68) (sv_d k_Mo_cheap 34 rfl) ⟨_, rfl, rfl⟩ rfl
          · refine sv_iconst (pc := 41) (v := (-1 : Int32)) (sv_d k_Mo_cheap 20 rfl) (by decide) ?_
            exact sv_ret (pc := 42) (sv_d k_Mo_cheap 21 rfl) ⟨_, rfl, rfl⟩ rfl
/-! Mo_cry -/
abbrev m_Mo_cry : sv_M := (yX12_cry, cX12_cry, 9, (some .int))
def t_Mo_cry : List (Nat × Instr × Nat) := [(0, .aload_n 0, 1), (1, .iload_n 1, 1), (2, .invokevirtual 259, 3), (5, .ifCond .eq 19, 3), (8, .aload_n 0, 1), (9, .iload_n 2, 1), (10, .invokevirtual 259, 3), (13, .ifCond .eq 11, 3), (16, .aload_n 0, 1), (17, .iload_n 3, 1), (18, .invokevirtual 369, 3), (21, .ifCond .ne 5, 3), (24, .iconst (-1), 1), (25, .ireturn, 1), (26, .iload_n 1, 1), (27, .iload_n 2, 1), (28, .if_icmp .eq 21, 3), (31, .aload_n 0, 1), (32, .iload 4, 2), (34, .invokevirtual 379, 3), (37, .ifCond .eq 12, 3), (40, .aload_n 0, 1), (41, .iload 5, 2), (43, .invokevirtual 346, 3), (46, .ifCond .ne 6, 3), (49, .bipush (-2), 2), (51, .ireturn, 1), (52, .aload_n 0, 1), (53, .iload 5, 2), (55, .invokevirtual 382, 3), (58, .aload_n 0, 1), (59, .iconst (-1), 1), (60, .iload_n 1, 1), (61, .iload_n 2, 1), (62, .invokevirtual 267, 3), (65, .ifCond .lt 17, 3), (68, .aload_n 0, 1), (69, .iload_n 1, 1), (70, .iload_n 2, 1), (71, .iload_n 3, 1), (72, .iload 4, 2), (74, .iload 5, 2), (76, .invokevirtual 426, 3), (79, .ifCond .ne 6, 3), (82, .bipush (-3), 2), (84, .ireturn, 1), (85, .aload_n 0, 1), (86, .getfield 196, 3), (89, .istore 6, 2), (91, .iconst 0, 1), (92, .istore 7, 2), (94, .aload_n 0, 1), (95, .iconst (-1), 1), (96, .invokevirtual 263, 3), (99, .iconst 0, 1), (100, .istore 8, 2), (102, .iload 8, 2), (104, .bipush 16, 2), (106, .if_icmp .ge 85, 3), (109, .aload_n 0, 1), (110, .getfield 29, 3), (113, .bipush 16, 2), (115, .iload 8, 2), (117, .imul, 1), (118, .iload_n 2, 1), (119, .iadd, 1), (120, .iaload, 1), (121, .ldc_w 262, 3), (124, .if_icmp .ge 61, 3), (127, .aload_n 0, 1), (128, .getfield 29, 3), (131, .bipush 16, 2), (133, .iload 8, 2), (135, .imul, 1), (136, .iload_n 2, 1), (137, .iadd, 1), (138, .iaload, 1), (139, .aload_n 0, 1), (140, .getfield 29, 3), (143, .bipush 16, 2), (145, .iload_n 1, 1), (146, .imul, 1), (147, .iload_n 2, 1), (148, .iadd, 1), (149, .iaload, 1), (150, .if_icmp .le 35, 3), (153, .aload_n 0, 1), (154, .iload 8, 2), (156, .iload_n 2, 1), (157, .invokevirtual 422, 3), (160, .ifCond .ne 6, 3), (163, .goto 22, 3), (166, .iload 7, 2), (168, .aload_n 0, 1), (169, .getfield 196, 3), (172, .iload 6, 2), (174, .if_icmp .ge 7, 3), (177, .iconst 1, 1), (178, .goto 4, 3), (181, .iconst 0, 1), (182, .iadd, 1), (183, .istore 7, 2), (185, .iinc 8 1, 3), (188, .goto (-86), 3), (191, .iload 7, 2), (193, .ireturn, 1)]
theorem k_Mo_cry : sv_tk m_Mo_cry.2.1 t_Mo_cry := by decide +kernel
theorem g_Mo_cry : sv_G m_Mo_cry 5 := ⟨by decide +kernel, sv_in 1830 (by decide +kernel) rfl, sv_in 103 (by decide +kernel) rfl, ⟨by decide, by decide⟩, by decide +kernel, by decide⟩
theorem in_Mo_cry : Cond.instanceMethod m_Mo_cry.1 ∈ sv_T := sv_in 1828 (by decide +kernel) rfl
theorem se_Mo_cry : Cond.selects m_Mo_cry.1.cls m_Mo_cry.1 m_Mo_cry.1 ∈ sv_T := sv_in 1829 (by decide +kernel) rfl
def F_Mo_cry_b185 (kc102 : Int32 → Int32 → Int32 → Int32 → Int32 → sv_S → Option (Int32 × sv_S)) (x1 : Int32) (x2 : Int32) (x6 : Int32) (x7 : Int32) (x8 : Int32) (s : sv_S) : Option (Int32 × sv_S) :=
  ss_let (x8 + (1 : Int32)) fun v11 =>
  kc102 x1 x2 x6 x7 v11 s
theorem V_Mo_cry_b185 (E : sv_E) (d : Nat) (kc102 : Int32 → Int32 → Int32 → Int32 → Int32 → sv_S → Option (Int32 × sv_S)) (hc102 : ∀ (x1 : Int32) (x2 : Int32) (x6 : Int32) (x7 : Int32) (x8 : Int32) (s : sv_S), sv_V E m_Mo_cry (d + 9) ss_i 102 [(0, sv_r E 187), (1, .int x1), (2, .int x2), (6, .int x6), (7, .int x7), (8, .int x8)] [] (ss_e s) (kc102 x1 x2 x6 x7 x8 s)) (x1 : Int32) (x2 : Int32) (x6 : Int32) (x7 : Int32) (x8 : Int32) (s : sv_S) : sv_V E m_Mo_cry (d + 9) ss_i 185 [(0, sv_r E 187), (1, .int x1), (2, .int x2), (6, .int x6), (7, .int x7), (8, .int x8)] [] (ss_e s) (F_Mo_cry_b185 kc102 x1 x2 x6 x7 x8 s) := by
  unfold F_Mo_cry_b185
  refine ss_letr (fun v11 e_v11 => ?_)
  refine sv_iinc (pc := 185) (v := v11) (lv' := [(8, .int v11), (0, sv_r E 187), (1, .int x1), (2, .int x2), (6, .int x6), (7, .int x7)]) (sv_d k_Mo_cry 102 rfl) (n := 5) rfl (by rw [e_v11]; rfl) (by decide) rfl ?_
  refine sv_goto (pc := 188) (tgt := 102) (sv_d k_Mo_cry 103 rfl) (by decide) ?_
  exact sv_loc [1, 2, 3, 4, 5, 0] rfl (hc102 x1 x2 x6 x7 v11 s)
def F_Mo_cry_b182 (kc102 : Int32 → Int32 → Int32 → Int32 → Int32 → sv_S → Option (Int32 × sv_S)) (x1 : Int32) (x2 : Int32) (x6 : Int32) (x8 : Int32) (t0 : Int32) (t1 : Int32) (s : sv_S) : Option (Int32 × sv_S) :=
  ss_let (t0 + t1) fun v13 =>
  F_Mo_cry_b185 kc102 x1 x2 x6 v13 x8 s
theorem V_Mo_cry_b182 (E : sv_E) (d : Nat) (kc102 : Int32 → Int32 → Int32 → Int32 → Int32 → sv_S → Option (Int32 × sv_S)) (hc102 : ∀ (x1 : Int32) (x2 : Int32) (x6 : Int32) (x7 : Int32) (x8 : Int32) (s : sv_S), sv_V E m_Mo_cry (d + 9) ss_i 102 [(0, sv_r E 187), (1, .int x1), (2, .int x2), (6, .int x6), (7, .int x7), (8, .int x8)] [] (ss_e s) (kc102 x1 x2 x6 x7 x8 s)) (x1 : Int32) (x2 : Int32) (x6 : Int32) (x8 : Int32) (t0 : Int32) (t1 : Int32) (s : sv_S) : sv_V E m_Mo_cry (d + 9) ss_i 182 [(0, sv_r E 187), (1, .int x1), (2, .int x2), (6, .int x6), (8, .int x8)] [.int t1, .int t0] (ss_e s) (F_Mo_cry_b182 kc102 x1 x2 x6 x8 t0 t1 s) := by
  unfold F_Mo_cry_b182
  refine sv_iadd (pc := 182) (sv_d k_Mo_cry 100 rfl) ?_
  refine ss_top (fun v13 e_v13 => ?_)
  refine sv_istore (pc := 183) (lv' := [(7, .int v13), (0, sv_r E 187), (1, .int x1), (2, .int x2), (6, .int x6), (8, .int x8)]) (sv_d k_Mo_cry 101 rfl) (by decide) rfl ?_
  exact sv_loc [1, 2, 3, 4, 0, 5] rfl (V_Mo_cry_b185 E d kc102 hc102 x1 x2 x6 v13 x8 s)
def F_Mo_cry_b102 : Nat → Int32 → Int32 → Int32 → Int32 → Int32 → sv_S → Option (Int32 × sv_S)
  | 0 => fun _ _ _ _ _ _ => none
  | n + 1 => fun x1 x2 x6 x7 x8 s =>
    if (16 : Int32) ≤ x8 then
      some (x7, s)
    else
    if sv_ib (((16 : Int32) * x8) + x2) 256 = true then
      if (100000 : Int32) ≤ (s.1 192 (((16 : Int32) * x8) + x2).toNatClampNeg) then
        F_Mo_cry_b185 (F_Mo_cry_b102  n) x1 x2 x6 x7 x8 s
      else
      if sv_ib (((16 : Int32) * x8) + x2) 256 = true then
        if sv_ib (((16 : Int32) * x1) + x2) 256 = true then
          if (s.1 192 (((16 : Int32) * x8) + x2).toNatClampNeg) ≤ (s.1 192 (((16 : Int32) * x1) + x2).toNatClampNeg) then
            F_Mo_cry_b185 (F_Mo_cry_b102  n) x1 x2 x6 x7 x8 s
          else
          (F_Mo_sumUp x8 x2 s).bind fun r12 =>
          if r12.1 = 0 then
            F_Mo_cry_b185 (F_Mo_cry_b102  n) x1 x2 x6 x7 x8 r12.2
          else
          if x6 ≤ (r12.2.1 187 61) then
            F_Mo_cry_b182 (F_Mo_cry_b102  n) x1 x2 x6 x8 x7 (0 : Int32) r12.2
          else
          F_Mo_cry_b182 (F_Mo_cry_b102  n) x1 x2 x6 x8 x7 (1 : Int32) r12.2
        else none
      else none
    else none
theorem V_Mo_cry_b102 (E : sv_E) (d : Nat) : ∀ (n : Nat) (x1 : Int32) (x2 : Int32) (x6 : Int32) (x7 : Int32) (x8 : Int32) (s : sv_S), sv_V E m_Mo_cry (d + 9) ss_i 102 [(0, sv_r E 187), (1, .int x1), (2, .int x2), (6, .int x6), (7, .int x7), (8, .int x8)] [] (ss_e s) (F_Mo_cry_b102 n x1 x2 x6 x7 x8 s) := by
  intro n
  induction n with
  | zero => intro x1 x2 x6 x7 x8 s; exact sv_none
  | succ n ih =>
    intro x1 x2 x6 x7 x8 s
    unfold F_Mo_cry_b102
    refine sv_iload (pc := 102) 5 (sv_d k_Mo_cry 56 rfl) rfl ?_
    refine sv_bipush (pc := 104) (v := (16 : Int32)) (sv_d k_Mo_cry 57 rfl) (by decide) ?_
    refine sv_icmp_ge (pc := 106) (tgt := 191) (sv_d k_Mo_cry 58 rfl) (by decide) ?_ ?_
    · refine sv_iload (pc := 191) 4 (sv_d k_Mo_cry 104 rfl) rfl ?_
      exact sv_ret (pc := 193) (sv_d k_Mo_cry 105 rfl) ⟨_, rfl, rfl⟩ rfl
    · refine sv_aload_n (pc := 109) 0 (sv_d k_Mo_cry 59 rfl) rfl rfl ?_
      refine sv_getf (pc := 110) 6 (sv_d k_Mo_cry 60 rfl) cf12 (by decide) w1308 kd187 (ss_lt (by decide)) (lr_187_6 E _) ?_
      refine sv_bipush (pc := 113) (v := (16 : Int32)) (sv_d k_Mo_cry 61 rfl) (by decide) ?_
      refine sv_iload (pc := 115) 5 (sv_d k_Mo_cry 62 rfl) rfl ?_
      refine sv_imul (pc := 117) (sv_d k_Mo_cry 63 rfl) ?_
      refine sv_iload_n (pc := 118) 2 (sv_d k_Mo_cry 64 rfl) rfl rfl ?_
      refine sv_iadd (pc := 119) (sv_d k_Mo_cry 65 rfl) ?_
      refine ss_iald (pc := 120) (n := 256) (sv_d k_Mo_cry 66 rfl) kd192 (ss_lt (by decide)) rfl ?_
      refine sv_ldcw (pc := 121) (v := (100000 : Int32)) w1573 (sv_d k_Mo_cry 67 rfl) ?_
      refine sv_icmp_ge (pc := 124) (tgt := 185) (sv_d k_Mo_cry 68 rfl) (by decide) ?_ ?_
      · exact sv_loc [0, 1, 2, 3, 4, 5] rfl (V_Mo_cry_b185 E d (F_Mo_cry_b102  n) ih x1 x2 x6 x7 x8 s)
      · refine sv_aload_n (pc := 127) 0 (sv_d k_Mo_cry 69 rfl) rfl rfl ?_
        refine sv_getf (pc := 128) 6 (sv_d k_Mo_cry 70 rfl) cf12 (by decide) w1308 kd187 (ss_lt (by decide)) (lr_187_6 E _) ?_
        refine sv_bipush (pc := 131) (v := (16 : Int32)) (sv_d k_Mo_cry 71 rfl) (by decide) ?_
        refine sv_iload (pc := 133) 5 (sv_d k_Mo_cry 72 rfl) rfl ?_
        refine sv_imul (pc := 135) (sv_d k_Mo_cry 73 rfl) ?_
        refine sv_iload_n (pc := 136) 2 (sv_d k_Mo_cry 74 rfl) rfl rfl ?_
        refine sv_iadd (pc := 137) (sv_d k_Mo_cry 75 rfl) ?_
        refine ss_iald (pc := 138) (n := 256) (sv_d k_Mo_cry 76 rfl) kd192 (ss_lt (by decide)) rfl ?_
        refine sv_aload_n (pc := 139) 0 (sv_d k_Mo_cry 77 rfl) rfl rfl ?_
        refine sv_getf (pc := 140) 6 (sv_d k_Mo_cry 78 rfl) cf12 (by decide) w1308 kd187 (ss_lt (by decide)) (lr_187_6 E _) ?_
        refine sv_bipush (pc := 143) (v := (16 : Int32)) (sv_d k_Mo_cry 79 rfl) (by decide) ?_
        refine sv_iload_n (pc := 145) 1 (sv_d k_Mo_cry 80 rfl) rfl rfl ?_
        refine sv_imul (pc := 146) (sv_d k_Mo_cry 81 rfl) ?_
        refine sv_iload_n (pc := 147) 2 (sv_d k_Mo_cry 82 rfl) rfl rfl ?_
        refine sv_iadd (pc := 148) (sv_d k_Mo_cry 83 rfl) ?_
        refine ss_iald (pc := 149) (n := 256) (sv_d k_Mo_cry 84 rfl) kd192 (ss_lt (by decide)) rfl ?_
        refine sv_icmp_le (pc := 150) (tgt := 185) (sv_d k_Mo_cry 85 rfl) (by decide) ?_ ?_
        · exact sv_loc [0, 1, 2, 3, 4, 5] rfl (V_Mo_cry_b185 E d (F_Mo_cry_b102  n) ih x1 x2 x6 x7 x8 s)
        · refine sv_aload_n (pc := 153) 0 (sv_d k_Mo_cry 86 rfl) rfl rfl ?_
          refine sv_iload (pc := 154) 5 (sv_d k_Mo_cry 87 rfl) rfl ?_
          refine sv_iload_n (pc := 156) 2 (sv_d k_Mo_cry 88 rfl) rfl rfl ?_
          refine sv_callV (pc := 157) (ψ := ss_i) (As := [.int x8, .int x2]) (rest := []) (c := 187) (sv_d k_Mo_cry 89 rfl) g_Mo_sumUp w1822 in_Mo_sumUp se_Mo_sumUp cf12 kd187 (ss_lt (by decide)) rfl (Nat.le_of_ble_eq_true rfl) (V_Mo_sumUp E (d + 8) x8 x2 s) (Nat.le_of_ble_eq_true rfl) rfl (fun r12 => ?_)
          show sv_V E _ _ _ 160 _ [.int r12.1] (ss_e r12.2) _
          refine sv_if_ne (pc := 160) (tgt := 166) (sv_d k_Mo_cry 90 rfl) (by decide) ?_ ?_
          · refine sv_iload (pc := 166) 4 (sv_d k_Mo_cry 92 rfl) rfl ?_
            refine sv_aload_n (pc := 168) 0 (sv_d k_Mo_cry 93 rfl) rfl rfl ?_
            refine sv_getf (pc := 169) 61 (sv_d k_Mo_cry 94 rfl) cf12 (by decide) w1363 kd187 (ss_lt (by decide)) rfl ?_
            refine sv_iload (pc := 172) 3 (sv_d k_Mo_cry 95 rfl) rfl ?_
            refine sv_icmp_ge (pc := 174) (tgt := 181) (sv_d k_Mo_cry 96 rfl) (by decide) ?_ ?_
            · refine sv_iconst (pc := 181) (v := (0 : Int32)) (sv_d k_Mo_cry 99 rfl) (by decide) ?_
              exact sv_loc [0, 1, 2, 3, 5] rfl (V_Mo_cry_b182 E d (F_Mo_cry_b102  n) ih x1 x2 x6 x8 x7 (0 : Int32) r12.2)
            · refine sv_iconst (pc := 177) (v := (1 : Int32)) (sv_d k_Mo_cry 97 rfl) (by decide) ?_
              refine sv_goto (pc := 178) (tgt := 182) (sv_d k_Mo_cry 98 rfl) (by decide) ?_
              exact sv_loc [0, 1, 2, 3, 5] rfl (V_Mo_cry_b182 E d (F_Mo_cry_b102  n) ih x1 x2 x6 x8 x7 (1 : Int32) r12.2)
          · refine sv_goto (pc := 163) (tgt := 185) (sv_d k_Mo_cry 91 rfl) (by decide) ?_
            exact sv_loc [0, 1, 2, 3, 4, 5] rfl (V_Mo_cry_b185 E d (F_Mo_cry_b102  n) ih x1 x2 x6 x7 x8 r12.2)
def F_Mo_cry (x1 : Int32) (x2 : Int32) (x3 : Int32) (x4 : Int32) (x5 : Int32) (s : sv_S) : Option (Int32 × sv_S) :=
  (F_Mo_isStation x1 s).bind fun r1 =>
  if r1 = 0 then
    some ((-1 : Int32), s)
  else
  (F_Mo_isStation x2 s).bind fun r2 =>
  if r2 = 0 then
    some ((-1 : Int32), s)
  else
  (F_Mo_isGood x3 s).bind fun r3 =>
  if r3 = 0 then
    some ((-1 : Int32), s)
  else
  if x1 = x2 then
    some ((-2 : Int32), s)
  else
  (F_Mo_isTons x4 s).bind fun r4 =>
  if r4 = 0 then
    some ((-2 : Int32), s)
  else
  (F_Mo_isDay x5 s).bind fun r5 =>
  if r5 = 0 then
    some ((-2 : Int32), s)
  else
  (F_Mo_prepare x5 s).bind fun r6 =>
  (F_Mo_milesBy (-1 : Int32) x1 x2 r6).bind fun r7 =>
  if r7.1 < 0 then
    some ((-3 : Int32), r7.2)
  else
  (F_Mo_findCheap x1 x2 x3 x4 x5 r7.2).bind fun r8 =>
  if r8.1 = 0 then
    some ((-3 : Int32), r8.2)
  else
  ss_let (r8.2.1 187 61) fun v9 =>
  (F_Mo_findFar (-1 : Int32) r8.2).bind fun r10 =>
  F_Mo_cry_b102 ss_F x1 x2 v9 (0 : Int32) (0 : Int32) r10
theorem V_Mo_cry (E : sv_E) (d : Nat) (x1 : Int32) (x2 : Int32) (x3 : Int32) (x4 : Int32) (x5 : Int32) (s : sv_S) : sv_V E m_Mo_cry (d + 9) ss_i 0 (lv_args 0 [sv_r E 187, .int x1, .int x2, .int x3, .int x4, .int x5]) [] (ss_e s) (F_Mo_cry x1 x2 x3 x4 x5 s) := by
  show sv_V E m_Mo_cry (d + 9) ss_i 0 [(0, sv_r E 187), (1, .int x1), (2, .int x2), (3, .int x3), (4, .int x4), (5, .int x5)] [] (ss_e s) _
  unfold F_Mo_cry
  refine sv_aload_n (pc := 0) 0 (sv_d k_Mo_cry 0 rfl) rfl rfl ?_
  refine sv_iload_n (pc := 1) 1 (sv_d k_Mo_cry 1 rfl) rfl rfl ?_
  refine sv_callV (pc := 2) (ψ := (ss_pi s)) (As := [.int x1]) (rest := []) (c := 187) (sv_d k_Mo_cry 2 rfl) g_Mo_isStation w1557 in_Mo_isStation se_Mo_isStation cf12 kd187 (ss_lt (by decide)) rfl (Nat.le_of_ble_eq_true rfl) (V_Mo_isStation E (d + 7) x1 s) (Nat.le_of_ble_eq_true rfl) rfl (fun r1 => ?_)
  show sv_V E _ _ _ 5 _ [.int r1] (ss_e s) _
  refine sv_if_eq (pc := 5) (tgt := 24) (sv_d k_Mo_cry 3 rfl) (by decide) ?_ ?_
  · refine sv_iconst (pc := 24) (v := (-1 : Int32)) (sv_d k_Mo_cry 12 rfl) (by decide) ?_
    exact sv_ret (pc := 25) (sv_d k_Mo_cry 13 rfl) ⟨_, rfl, rfl⟩ rfl
  · refine sv_aload_n (pc := 8) 0 (sv_d k_Mo_cry 4 rfl) rfl rfl ?_
    refine sv_iload_n (pc := 9) 2 (sv_d k_Mo_cry 5 rfl) rfl rfl ?_
    refine sv_callV (pc := 10) (ψ := (ss_pi s)) (As := [.int x2]) (rest := []) (c := 187) (sv_d k_Mo_cry 6 rfl) g_Mo_isStation w1557 in_Mo_isStation se_Mo_isStation cf12 kd187 (ss_lt (by decide)) rfl (Nat.le_of_ble_eq_true rfl) (V_Mo_isStation E (d + 7) x2 s) (Nat.le_of_ble_eq_true rfl) rfl (fun r2 => ?_)
    show sv_V E _ _ _ 13 _ [.int r2] (ss_e s) _
    refine sv_if_eq (pc := 13) (tgt := 24) (sv_d k_Mo_cry 7 rfl) (by decide) ?_ ?_
    · refine sv_iconst (pc := 24) (v := (-1 : Int32)) (sv_d k_Mo_cry 12 rfl) (by decide) ?_
      exact sv_ret (pc := 25) (sv_d k_Mo_cry 13 rfl) ⟨_, rfl, rfl⟩ rfl
    · refine sv_aload_n (pc := 16) 0 (sv_d k_Mo_cry 8 rfl) rfl rfl ?_
      refine sv_iload_n (pc := 17) 3 (sv_d k_Mo_cry 9 rfl) rfl rfl ?_
      refine sv_callV (pc := 18) (ψ := (ss_pi s)) (As := [.int x3]) (rest := []) (c := 187) (sv_d k_Mo_cry 10 rfl) g_Mo_isGood w1698 in_Mo_isGood se_Mo_isGood cf12 kd187 (ss_lt (by decide)) rfl (Nat.le_of_ble_eq_true rfl) (V_Mo_isGood E (d + 7) x3 s) (Nat.le_of_ble_eq_true rfl) rfl (fun r3 => ?_)
      show sv_V E _ _ _ 21 _ [.int r3] (ss_e s) _
      refine sv_if_ne (pc := 21) (tgt := 26) (sv_d k_Mo_cry 11 rfl) (by decide) ?_ ?_
      · refine sv_iload_n (pc := 26) 1 (sv_d k_Mo_cry 14 rfl) rfl rfl ?_
        refine sv_iload_n (pc := 27) 2 (sv_d k_Mo_cry 15 rfl) rfl rfl ?_
        refine sv_icmp_eq (pc := 28) (tgt := 49) (sv_d k_Mo_cry 16 rfl) (by decide) ?_ ?_
        · refine sv_bipush (pc := 49) (v := (-2 : Int32)) (sv_d k_Mo_cry 25 rfl) (by decide) ?_
          exact sv_ret (pc := 51) (sv_d k_Mo_cry 26 rfl) ⟨_, rfl, rfl⟩ rfl
        · refine sv_aload_n (pc := 31) 0 (sv_d k_Mo_cry 17 rfl) rfl rfl ?_
          refine sv_iload (pc := 32) 4 (sv_d k_Mo_cry 18 rfl) rfl ?_
          refine sv_callV (pc := 34) (ψ := (ss_pi s)) (As := [.int x4]) (rest := []) (c := 187) (sv_d k_Mo_cry 19 rfl) g_Mo_isTons w1730 in_Mo_isTons se_Mo_isTons cf12 kd187 (ss_lt (by decide)) rfl (Nat.le_of_ble_eq_true rfl) (V_Mo_isTons E (d + 7) x4 s) (Nat.le_of_ble_eq_true rfl) rfl (fun r4 => ?_)
          show sv_V E _ _ _ 37 _ [.int r4] (ss_e s) _
          refine sv_if_eq (pc := 37) (tgt := 49) (sv_d k_Mo_cry 20 rfl) (by decide) ?_ ?_
          · refine sv_bipush (pc := 49) (v := (-2 : Int32)) (sv_d k_Mo_cry 25 rfl) (by decide) ?_
            exact sv_ret (pc := 51) (sv_d k_Mo_cry 26 rfl) ⟨_, rfl, rfl⟩ rfl
          · refine sv_aload_n (pc := 40) 0 (sv_d k_Mo_cry 21 rfl) rfl rfl ?_
            refine sv_iload (pc := 41) 5 (sv_d k_Mo_cry 22 rfl) rfl ?_
            refine sv_callV (pc := 43) (ψ := (ss_pi s)) (As := [.int x5]) (rest := []) (c := 187) (sv_d k_Mo_cry 23 rfl) g_Mo_isDay w1594 in_Mo_isDay se_Mo_isDay cf12 kd187 (ss_lt (by decide)) rfl (Nat.le_of_ble_eq_true rfl) (V_Mo_isDay E (d + 7) x5 s) (Nat.le_of_ble_eq_true rfl) rfl (fun r5 => ?_)
            show sv_V E _ _ _ 46 _ [.int r5] (ss_e s) _
            refine sv_if_ne (pc := 46) (tgt := 52) (sv_d k_Mo_cry 24 rfl) (by decide) ?_ ?_
            · refine sv_aload_n (pc := 52) 0 (sv_d k_Mo_cry 27 rfl) rfl rfl ?_
              refine sv_iload (pc := 53) 5 (sv_d k_Mo_cry 28 rfl) rfl ?_
              refine sv_callV (pc := 55) (ψ := ss_v) (As := [.int x5]) (rest := []) (c := 187) (sv_d k_Mo_cry 29 rfl) g_Mo_prepare w1734 in_Mo_prepare se_Mo_prepare cf12 kd187 (ss_lt (by decide)) rfl (Nat.le_of_ble_eq_true rfl) (V_Mo_prepare E (d + 0) x5 s) (Nat.le_of_ble_eq_true rfl) rfl (fun r6 => ?_)
              show sv_V E _ _ _ 58 _ [] (ss_e r6) _
              refine sv_aload_n (pc := 58) 0 (sv_d k_Mo_cry 30 rfl) rfl rfl ?_
              refine sv_iconst (pc := 59) (v := (-1 : Int32)) (sv_d k_Mo_cry 31 rfl) (by decide) ?_
              refine sv_iload_n (pc := 60) 1 (sv_d k_Mo_cry 32 rfl) rfl rfl ?_
              refine sv_iload_n (pc := 61) 2 (sv_d k_Mo_cry 33 rfl) rfl rfl ?_
              refine sv_callV (pc := 62) (ψ := ss_i) (As := [.int (-1 : Int32), .int x1, .int x2]) (rest := []) (c := 187) (sv_d k_Mo_cry 34 rfl) g_Mo_milesBy w1565 in_Mo_milesBy se_Mo_milesBy cf12 kd187 (ss_lt (by decide)) rfl (Nat.le_of_ble_eq_true rfl) (V_Mo_milesBy E (d + 7) (-1 : Int32) x1 x2 r6) (Nat.le_of_ble_eq_true rfl) rfl (fun r7 => ?_)
              show sv_V E _ _ _ 65 _ [.int r7.1] (ss_e r7.2) _
              refine sv_if_lt (pc := 65) (tgt := 82) (sv_d k_Mo_cry 35 rfl) (by decide) ?_ ?_
              · refine sv_bipush (pc := 82) (v := (-3 : Int32)) (sv_d k_Mo_cry 44 rfl) (by decide) ?_
                exact sv_ret (pc := 84) (sv_d k_Mo_cry 45 rfl) ⟨_, rfl, rfl⟩ rfl
              · refine sv_aload_n (pc := 68) 0 (sv_d k_Mo_cry 36 rfl) rfl rfl ?_
                refine sv_iload_n (pc := 69) 1 (sv_d k_Mo_cry 37 rfl) rfl rfl ?_
                refine sv_iload_n (pc := 70) 2 (sv_d k_Mo_cry 38 rfl) rfl rfl ?_
                refine sv_iload_n (pc := 71) 3 (sv_d k_Mo_cry 39 rfl) rfl rfl ?_
                refine sv_iload (pc := 72) 4 (sv_d k_Mo_cry 40 rfl) rfl ?_
                refine sv_iload (pc := 74) 5 (sv_d k_Mo_cry 41 rfl) rfl ?_
                refine sv_callV (pc := 76) (ψ := ss_i) (As := [.int x1, .int x2, .int x3, .int x4, .int x5]) (rest := []) (c := 187) (sv_d k_Mo_cry 42 rfl) g_Mo_findCheap w1818 in_Mo_findCheap se_Mo_findCheap cf12 kd187 (ss_lt (by decide)) rfl (Nat.le_of_ble_eq_true rfl) (V_Mo_findCheap E (d + 7) x1 x2 x3 x4 x5 r7.2) (Nat.le_of_ble_eq_true rfl) rfl (fun r8 => ?_)
                show sv_V E _ _ _ 79 _ [.int r8.1] (ss_e r8.2) _
                refine sv_if_ne (pc := 79) (tgt := 85) (sv_d k_Mo_cry 43 rfl) (by decide) ?_ ?_
                · refine sv_aload_n (pc := 85) 0 (sv_d k_Mo_cry 46 rfl) rfl rfl ?_
                  refine sv_getf (pc := 86) 61 (sv_d k_Mo_cry 47 rfl) cf12 (by decide) w1363 kd187 (ss_lt (by decide)) rfl ?_
                  refine ss_top (fun v9 e_v9 => ?_)
                  refine sv_istore (pc := 89) (lv' := [(6, .int v9), (0, sv_r E 187), (1, .int x1), (2, .int x2), (3, .int x3), (4, .int x4), (5, .int x5)]) (sv_d k_Mo_cry 48 rfl) (by decide) rfl ?_
                  refine sv_iconst (pc := 91) (v := (0 : Int32)) (sv_d k_Mo_cry 49 rfl) (by decide) ?_
                  refine sv_istore (pc := 92) (lv' := [(7, .int (0 : Int32)), (6, .int v9), (0, sv_r E 187), (1, .int x1), (2, .int x2), (3, .int x3), (4, .int x4), (5, .int x5)]) (sv_d k_Mo_cry 50 rfl) (by decide) rfl ?_
                  refine sv_aload_n (pc := 94) 2 (sv_d k_Mo_cry 51 rfl) rfl rfl ?_
                  refine sv_iconst (pc := 95) (v := (-1 : Int32)) (sv_d k_Mo_cry 52 rfl) (by decide) ?_
                  refine sv_callV (pc := 96) (ψ := ss_v) (As := [.int (-1 : Int32)]) (rest := []) (c := 187) (sv_d k_Mo_cry 53 rfl) g_Mo_findFar w1569 in_Mo_findFar se_Mo_findFar cf12 kd187 (ss_lt (by decide)) rfl (Nat.le_of_ble_eq_true rfl) (V_Mo_findFar E (d + 8) (-1 : Int32) r8.2) (Nat.le_of_ble_eq_true rfl) rfl (fun r10 => ?_)
                  show sv_V E _ _ _ 99 _ [] (ss_e r10) _
                  refine sv_iconst (pc := 99) (v := (0 : Int32)) (sv_d k_Mo_cry 54 rfl) (by decide) ?_
                  refine sv_istore (pc := 100) (lv' := [(8, .int (0 : Int32)), (7, .int (0 : Int32)), (6, .int v9), (0, sv_r E 187), (1, .int x1), (2, .int x2), (3, .int x3), (4, .int x4), (5, .int x5)]) (sv_d k_Mo_cry 55 rfl) (by decide) rfl ?_
                  exact sv_loc [3, 4, 5, 2, 1, 0] rfl (V_Mo_cry_b102 E d ss_F x1 x2 v9 (0 : Int32) (0 : Int32) r10)
                · refine sv_bipush (pc := 82) (v := (-3 : Int32)) (sv_d k_Mo_cry 44 rfl) (by decide) ?_
                  exact sv_ret (pc := 84) (sv_d k_Mo_cry 45 rfl) ⟨_, rfl, rfl⟩ rfl
            · refine sv_bipush (pc := 49) (v := (-2 : Int32)) (sv_d k_Mo_cry 25 rfl) (by decide) ?_
              exact sv_ret (pc := 51) (sv_d k_Mo_cry 26 rfl) ⟨_, rfl, rfl⟩ rfl
      · refine sv_iconst (pc := 24) (v := (-1 : Int32)) (sv_d k_Mo_cry 12 rfl) (by decide) ?_
        exact sv_ret (pc := 25) (sv_d k_Mo_cry 13 rfl) ⟨_, rfl, rfl⟩ rfl
