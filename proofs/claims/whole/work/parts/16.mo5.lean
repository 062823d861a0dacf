/-! Mo_want -/
abbrev m_Mo_want : sv_M := (yX12_want, cX12_want, 6, (some .int))
def t_Mo_want : List (Nat × Instr × Nat) := [(0, .aload_n 0, 1), (1, .iload_n 1, 1), (2, .invokevirtual 259, 3), (5, .ifCond .eq 19, 3), (8, .aload_n 0, 1), (9, .iload_n 2, 1), (10, .invokevirtual 259, 3), (13, .ifCond .eq 11, 3), (16, .aload_n 0, 1), (17, .iload_n 3, 1), (18, .invokevirtual 369, 3), (21, .ifCond .ne 5, 3), (24, .iconst (-1), 1), (25, .ireturn, 1), (26, .iload_n 1, 1), (27, .iload_n 2, 1), (28, .if_icmp .eq 25, 3), (31, .aload_n 0, 1), (32, .iload 4, 2), (34, .invokevirtual 379, 3), (37, .ifCond .eq 16, 3), (40, .aload_n 0, 1), (41, .iload 5, 2), (43, .iconst 0, 1), (44, .sipush 999, 3), (47, .invokevirtual 251, 3), (50, .ifCond .ne 6, 3), (53, .bipush (-2), 2), (55, .ireturn, 1), (56, .aload_n 0, 1), (57, .getfield 202, 3), (60, .bipush 20, 2), (62, .if_icmp .ne 6, 3), (65, .bipush (-4), 2), (67, .ireturn, 1), (68, .aload_n 0, 1), (69, .getfield 205, 3), (72, .aload_n 0, 1), (73, .getfield 202, 3), (76, .iload_n 1, 1), (77, .iastore, 1), (78, .aload_n 0, 1), (79, .getfield 208, 3), (82, .aload_n 0, 1), (83, .getfield 202, 3), (86, .iload_n 2, 1), (87, .iastore, 1), (88, .aload_n 0, 1), (89, .getfield 211, 3), (92, .aload_n 0, 1), (93, .getfield 202, 3), (96, .iload_n 3, 1), (97, .iastore, 1), (98, .aload_n 0, 1), (99, .getfield 214, 3), (102, .aload_n 0, 1), (103, .getfield 202, 3), (106, .iload 4, 2), (108, .iastore, 1), (109, .aload_n 0, 1), (110, .getfield 217, 3), (113, .aload_n 0, 1), (114, .getfield 202, 3), (117, .iload 5, 2), (119, .iastore, 1), (120, .aload_n 0, 1), (121, .dup, 1), (122, .getfield 202, 3), (125, .iconst 1, 1), (126, .iadd, 1), (127, .putfield 202, 3), (130, .aload_n 0, 1), (131, .getfield 202, 3), (134, .iconst 1, 1), (135, .isub, 1), (136, .ireturn, 1)]
theorem k_Mo_want : sv_tk m_Mo_want.2.1 t_Mo_want := by decide +kernel
theorem g_Mo_want : sv_G m_Mo_want 5 := ⟨by decide +kernel, sv_in 1834 (by decide +kernel) rfl, sv_in 103 (by decide +kernel) rfl, ⟨by decide, by decide⟩, by decide +kernel, by decide⟩
theorem in_Mo_want : Cond.instanceMethod m_Mo_want.1 ∈ sv_T := sv_in 1832 (by decide +kernel) rfl
theorem se_Mo_want : Cond.selects m_Mo_want.1.cls m_Mo_want.1 m_Mo_want.1 ∈ sv_T := sv_in 1833 (by decide +kernel) rfl
def F_Mo_want (x1 : Int32) (x2 : Int32) (x3 : Int32) (x4 : Int32) (x5 : Int32) (s : sv_S) : Option (Int32 × sv_S) :=
  (F_Mo_isStation x1 s).bind fun r1 =>
  if r1 = 0 then
    some ((-1 : Int32), s)
  else
  (F_Mo_isStation x2 s).bind fun r2 =>
  if r2 = 0 then
    some ((-1 : Int32), s)
  else
  (F_Mo_isGood x3 s).bind fun r3 =>
  if r3 = 0 then
    some ((-1 : Int32), s)
  else
  if x1 = x2 then
    some ((-2 : Int32), s)
  else
  (F_Mo_isTons x4 s).bind fun r4 =>
  if r4 = 0 then
    some ((-2 : Int32), s)
  else
  (F_Mo_in x5 (0 : Int32) (999 : Int32) s).bind fun r5 =>
  if r5 = 0 then
    some ((-2 : Int32), s)
  else
  if (s.1 187 63) = (20 : Int32) then
    some ((-4 : Int32), s)
  else
  if sv_ib (s.1 187 63) 20 = true then
    ss_let (ss_setI s 230 (s.1 187 63).toNatClampNeg x1) fun s6 =>
    if sv_ib (s6.1 187 63) 20 = true then
      ss_let (ss_setI s6 231 (s6.1 187 63).toNatClampNeg x2) fun s7 =>
      if sv_ib (s7.1 187 63) 20 = true then
        ss_let (ss_setI s7 232 (s7.1 187 63).toNatClampNeg x3) fun s8 =>
        if sv_ib (s8.1 187 63) 20 = true then
          ss_let (ss_setI s8 233 (s8.1 187 63).toNatClampNeg x4) fun s9 =>
          if sv_ib (s9.1 187 63) 20 = true then
            ss_let (ss_setI s9 234 (s9.1 187 63).toNatClampNeg x5) fun s10 =>
            ss_let (ss_setI s10 187 63 ((s10.1 187 63) + (1 : Int32))) fun s11 =>
            some ((s11.1 187 63) - (1 : Int32), s11)
          else none
        else none
      else none
    else none
  else none
theorem V_Mo_want (E : sv_E) (d : Nat) (x1 : Int32) (x2 : Int32) (x3 : Int32) (x4 : Int32) (x5 : Int32) (s : sv_S) : sv_V E m_Mo_want (d + 2) ss_i 0 (lv_args 0 [sv_r E 187, .int x1, .int x2, .int x3, .int x4, .int x5]) [] (ss_e s) (F_Mo_want x1 x2 x3 x4 x5 s) := by
  show sv_V E m_Mo_want (d + 2) ss_i 0 [(0, sv_r E 187), (1, .int x1), (2, .int x2), (3, .int x3), (4, .int x4), (5, .int x5)] [] (ss_e s) _
  unfold F_Mo_want
  refine sv_aload_n (pc := 0) 0 (sv_d k_Mo_want 0 rfl) rfl rfl ?_
  refine sv_iload_n (pc := 1) 1 (sv_d k_Mo_want 1 rfl) rfl rfl ?_
  refine sv_callV (pc := 2) (ψ := (ss_pi s)) (As := [.int x1]) (rest := []) (c := 187) (sv_d k_Mo_want 2 rfl) g_Mo_isStation w1557 in_Mo_isStation se_Mo_isStation cf12 kd187 (ss_lt (by decide)) rfl (Nat.le_of_ble_eq_true rfl) (V_Mo_isStation E (d + 0) x1 s) (Nat.le_of_ble_eq_true rfl) rfl (fun r1 => ?_)
  show sv_V E _ _ _ 5 _ [.int r1] (ss_e s) _
  refine sv_if_eq (pc := 5) (tgt := 24) (sv_d k_Mo_want 3 rfl) (by decide) ?_ ?_
  · refine sv_iconst (pc := 24) (v := (-1 : Int32)) (sv_d k_Mo_want 12 rfl) (by decide) ?_
    exact sv_ret (pc := 25) (sv_d k_Mo_want 13 rfl) ⟨_, rfl, rfl⟩ rfl
  · refine sv_aload_n (pc := 8) 0 (sv_d k_Mo_want 4 rfl) rfl rfl ?_
    refine sv_iload_n (pc := 9) 2 (sv_d k_Mo_want 5 rfl) rfl rfl ?_
    refine sv_callV (pc := 10) (ψ := (ss_pi s)) (As := [.int x2]) (rest := []) (c := 187) (sv_d k_Mo_want 6 rfl) g_Mo_isStation w1557 in_Mo_isStation se_Mo_isStation cf12 kd187 (ss_lt (by decide)) rfl (Nat.le_of_ble_eq_true rfl) (V_Mo_isStation E (d + 0) x2 s) (Nat.le_of_ble_eq_true rfl) rfl (fun r2 => ?_)
    show sv_V E _ _ _ 13 _ [.int r2] (ss_e s) _
    refine sv_if_eq (pc := 13) (tgt := 24) (sv_d k_Mo_want 7 rfl) (by decide) ?_ ?_
    · refine sv_iconst (pc := 24) (v := (-1 : Int32)) (sv_d k_Mo_want 12 rfl) (by decide) ?_
      exact sv_ret (pc := 25) (sv_d k_Mo_want 13 rfl) ⟨_, rfl, rfl⟩ rfl
    · refine sv_aload_n (pc := 16) 0 (sv_d k_Mo_want 8 rfl) rfl rfl ?_
      refine sv_iload_n (pc := 17) 3 (sv_d k_Mo_want 9 rfl) rfl rfl ?_
      refine sv_callV (pc := 18) (ψ := (ss_pi s)) (As := [.int x3]) (rest := []) (c := 187) (sv_d k_Mo_want 10 rfl) g_Mo_isGood w1698 in_Mo_isGood se_Mo_isGood cf12 kd187 (ss_lt (by decide)) rfl (Nat.le_of_ble_eq_true rfl) (V_Mo_isGood E (d + 0) x3 s) (Nat.le_of_ble_eq_true rfl) rfl (fun r3 => ?_)
      show sv_V E _ _ _ 21 _ [.int r3] (ss_e s) _
      refine sv_if_ne (pc := 21) (tgt := 26) (sv_d k_Mo_want 11 rfl) (by decide) ?_ ?_
      · refine sv_iload_n (pc := 26) 1 (sv_d k_Mo_want 14 rfl) rfl rfl ?_
        refine sv_iload_n (pc := 27) 2 (sv_d k_Mo_want 15 rfl) rfl rfl ?_
        refine sv_icmp_eq (pc := 28) (tgt := 53) (sv_d k_Mo_want 16 rfl) (by decide) ?_ ?_
        · refine sv_bipush (pc := 53) (v := (-2 : Int32)) (sv_d k_Mo_want 27 rfl) (by decide) ?_
          exact sv_ret (pc := 55) (sv_d k_Mo_want 28 rfl) ⟨_, rfl, rfl⟩ rfl
        · refine sv_aload_n (pc := 31) 0 (sv_d k_Mo_want 17 rfl) rfl rfl ?_
          refine sv_iload (pc := 32) 4 (sv_d k_Mo_want 18 rfl) rfl ?_
          refine sv_callV (pc := 34) (ψ := (ss_pi s)) (As := [.int x4]) (rest := []) (c := 187) (sv_d k_Mo_want 19 rfl) g_Mo_isTons w1730 in_Mo_isTons se_Mo_isTons cf12 kd187 (ss_lt (by decide)) rfl (Nat.le_of_ble_eq_true rfl) (V_Mo_isTons E (d + 0) x4 s) (Nat.le_of_ble_eq_true rfl) rfl (fun r4 => ?_)
          show sv_V E _ _ _ 37 _ [.int r4] (ss_e s) _
          refine sv_if_eq (pc := 37) (tgt := 53) (sv_d k_Mo_want 20 rfl) (by decide) ?_ ?_
          · refine sv_bipush (pc := 53) (v := (-2 : Int32)) (sv_d k_Mo_want 27 rfl) (by decide) ?_
            exact sv_ret (pc := 55) (sv_d k_Mo_want 28 rfl) ⟨_, rfl, rfl⟩ rfl
          · refine sv_aload_n (pc := 40) 0 (sv_d k_Mo_want 21 rfl) rfl rfl ?_
            refine sv_iload (pc := 41) 5 (sv_d k_Mo_want 22 rfl) rfl ?_
            refine sv_iconst (pc := 43) (v := (0 : Int32)) (sv_d k_Mo_want 23 rfl) (by decide) ?_
            refine sv_sipush (pc := 44) (v := (999 : Int32)) (sv_d k_Mo_want 24 rfl) (by decide) ?_
            refine sv_callV (pc := 47) (ψ := (ss_pi s)) (As := [.int x5, .int (0 : Int32), .int (999 : Int32)]) (rest := []) (c := 187) (sv_d k_Mo_want 25 rfl) g_Mo_in w1545 in_Mo_in se_Mo_in cf12 kd187 (ss_lt (by decide)) rfl (Nat.le_of_ble_eq_true rfl) (V_Mo_in E (d + 1) x5 (0 : Int32) (999 : Int32) s) (Nat.le_of_ble_eq_true rfl) rfl (fun r5 => ?_)
            show sv_V E _ _ _ 50 _ [.int r5] (ss_e s) _
            refine sv_if_ne (pc := 50) (tgt := 56) (sv_d k_Mo_want 26 rfl) (by decide) ?_ ?_
            · refine sv_aload_n (pc := 56) 0 (sv_d k_Mo_want 29 rfl) rfl rfl ?_
              refine sv_getf (pc := 57) 63 (sv_d k_Mo_want 30 rfl) cf12 (by decide) w1365 kd187 (ss_lt (by decide)) rfl ?_
              refine sv_bipush (pc := 60) (v := (20 : Int32)) (sv_d k_Mo_want 31 rfl) (by decide) ?_
              refine sv_icmp_ne (pc := 62) (tgt := 68) (sv_d k_Mo_want 32 rfl) (by decide) ?_ ?_
              · refine sv_aload_n (pc := 68) 0 (sv_d k_Mo_want 35 rfl) rfl rfl ?_
                refine sv_getf (pc := 69) 64 (sv_d k_Mo_want 36 rfl) cf12 (by decide) w1366 kd187 (ss_lt (by decide)) (lr_187_64 E _) ?_
                refine sv_aload_n (pc := 72) 0 (sv_d k_Mo_want 37 rfl) rfl rfl ?_
                refine sv_getf (pc := 73) 63 (sv_d k_Mo_want 38 rfl) cf12 (by decide) w1365 kd187 (ss_lt (by decide)) rfl ?_
                refine sv_iload_n (pc := 76) 1 (sv_d k_Mo_want 39 rfl) rfl rfl ?_
                refine ss_iast (pc := 77) (n := 20) (sv_d k_Mo_want 40 rfl) kd230 (by decide) (ss_lt (by decide)) rfl (ss_lets (fun s6 e_s6 => ?_))
                refine sv_aload_n (pc := 78) 0 (sv_d k_Mo_want 41 rfl) rfl rfl ?_
                refine sv_getf (pc := 79) 65 (sv_d k_Mo_want 42 rfl) cf12 (by decide) w1367 kd187 (ss_lt (by decide)) (lr_187_65 E _) ?_
                refine sv_aload_n (pc := 82) 0 (sv_d k_Mo_want 43 rfl) rfl rfl ?_
                refine sv_getf (pc := 83) 63 (sv_d k_Mo_want 44 rfl) cf12 (by decide) w1365 kd187 (ss_lt (by decide)) rfl ?_
                refine sv_iload_n (pc := 86) 2 (sv_d k_Mo_want 45 rfl) rfl rfl ?_
                refine ss_iast (pc := 87) (n := 20) (sv_d k_Mo_want 46 rfl) kd231 (by decide) (ss_lt (by decide)) rfl (ss_lets (fun s7 e_s7 => ?_))
                refine sv_aload_n (pc := 88) 0 (sv_d k_Mo_want 47 rfl) rfl rfl ?_
                refine sv_getf (pc := 89) 66 (sv_d k_Mo_want 48 rfl) cf12 (by decide) w1368 kd187 (ss_lt (by decide)) (lr_187_66 E _) ?_
                refine sv_aload_n (pc := 92) 0 (sv_d k_Mo_want 49 rfl) rfl rfl ?_
                refine sv_getf (pc := 93) 63 (sv_d k_Mo_want 50 rfl) cf12 (by decide) w1365 kd187 (ss_lt (by decide)) rfl ?_
                refine sv_iload_n (pc := 96) 3 (sv_d k_Mo_want 51 rfl) rfl rfl ?_
                refine ss_iast (pc := 97) (n := 20) (sv_d k_Mo_want 52 rfl) kd232 (by decide) (ss_lt (by decide)) rfl (ss_lets (fun s8 e_s8 => ?_))
                refine sv_aload_n (pc := 98) 0 (sv_d k_Mo_want 53 rfl) rfl rfl ?_
                refine sv_getf (pc := 99) 67 (sv_d k_Mo_want 54 rfl) cf12 (by decide) w1369 kd187 (ss_lt (by decide)) (lr_187_67 E _) ?_
                refine sv_aload_n (pc := 102) 0 (sv_d k_Mo_want 55 rfl) rfl rfl ?_
                refine sv_getf (pc := 103) 63 (sv_d k_Mo_want 56 rfl) cf12 (by decide) w1365 kd187 (ss_lt (by decide)) rfl ?_
                refine sv_iload (pc := 106) 4 (sv_d k_Mo_want 57 rfl) rfl ?_
                refine ss_iast (pc := 108) (n := 20) (sv_d k_Mo_want 58 rfl) kd233 (by decide) (ss_lt (by decide)) rfl (ss_lets (fun s9 e_s9 => ?_))
                refine sv_aload_n (pc := 109) 0 (sv_d k_Mo_want 59 rfl) rfl rfl ?_
                refine sv_getf (pc := 110) 68 (sv_d k_Mo_want 60 rfl) cf12 (by decide) w1370 kd187 (ss_lt (by decide)) (lr_187_68 E _) ?_
                refine sv_aload_n (pc := 113) 0 (sv_d k_Mo_want 61 rfl) rfl rfl ?_
                refine sv_getf (pc := 114) 63 (sv_d k_Mo_want 62 rfl) cf12 (by decide) w1365 kd187 (ss_lt (by decide)) rfl ?_
                refine sv_iload (pc := 117) 5 (sv_d k_Mo_want 63 rfl) rfl ?_
                refine ss_iast (pc := 119) (n := 20) (sv_d k_Mo_want 64 rfl) kd234 (by decide) (ss_lt (by decide)) rfl (ss_lets (fun s10 e_s10 => ?_))
                refine sv_aload_n (pc := 120) 0 (sv_d k_Mo_want 65 rfl) rfl rfl ?_
                refine sv_dup (pc := 121) (sv_d k_Mo_want 66 rfl) rfl ?_
                refine sv_getf (pc := 122) 63 (sv_d k_Mo_want 67 rfl) cf12 (by decide) w1365 kd187 (ss_lt (by decide)) rfl ?_
                refine sv_iconst (pc := 125) (v := (1 : Int32)) (sv_d k_Mo_want 68 rfl) (by decide) ?_
                refine sv_iadd (pc := 126) (sv_d k_Mo_want 69 rfl) ?_
                refine ss_putI (pc := 127) 63 (sv_d k_Mo_want 70 rfl) cf12 (by decide) rfl w1365 kd187 (ss_lt (by decide)) rfl rfl (fun _ => rfl) (ss_lets (fun s11 e_s11 => ?_))
                refine sv_aload_n (pc := 130) 0 (sv_d k_Mo_want 71 rfl) rfl rfl ?_
                refine sv_getf (pc := 131) 63 (sv_d k_Mo_want 72 rfl) cf12 (by decide) w1365 kd187 (ss_lt (by decide)) rfl ?_
                refine sv_iconst (pc := 134) (v := (1 : Int32)) (sv_d k_Mo_want 73 rfl) (by decide) ?_
                refine sv_isub (pc := 135) (sv_d k_Mo_want 74 rfl) ?_
                exact sv_ret (pc := 136) (sv_d k_Mo_want 75 rfl) ⟨_, rfl, rfl⟩ rfl
              · refine sv_bipush (pc := 65) (v := (-4 : Int32)) (sv_d k_Mo_want 33 rfl) (by decide) ?_
                exact sv_ret (pc := 67) (sv_d k_Mo_want 34 rfl) ⟨_, rfl, rfl⟩ rfl
            · refine sv_bipush (pc := 53) (v := (-2 : Int32)) (sv_d k_Mo_want 27 rfl) (by decide) ?_
              exact sv_ret (pc := 55) (sv_d k_Mo_want 28 rfl) ⟨_, rfl, rfl⟩ rfl
      · refine sv_iconst (pc := 24) (v := (-1 : Int32)) (sv_d k_Mo_want 12 rfl) (by decide) ?_
        exact sv_ret (pc := 25) (sv_d k_Mo_want 13 rfl) ⟨_, rfl, rfl⟩ rfl
/-! Mo_doesShip -/
abbrev m_Mo_doesShip : sv_M := (yX12_doesShip, cX12_doesShip, 3, (some .boolean))
def t_Mo_doesShip : List (Nat × Instr × Nat) := [(0, .aload_n 0, 1), (1, .aload_n 0, 1), (2, .getfield 205, 3), (5, .iload_n 1, 1), (6, .iaload, 1), (7, .aload_n 0, 1), (8, .getfield 208, 3), (11, .iload_n 1, 1), (12, .iaload, 1), (13, .aload_n 0, 1), (14, .getfield 211, 3), (17, .iload_n 1, 1), (18, .iaload, 1), (19, .aload_n 0, 1), (20, .getfield 214, 3), (23, .iload_n 1, 1), (24, .iaload, 1), (25, .iload_n 2, 1), (26, .invokevirtual 426, 3), (29, .ifCond .eq 27, 3), (32, .aload_n 0, 1), (33, .getfield 196, 3), (36, .aload_n 0, 1), (37, .getfield 214, 3), (40, .iload_n 1, 1), (41, .iaload, 1), (42, .aload_n 0, 1), (43, .getfield 217, 3), (46, .iload_n 1, 1), (47, .iaload, 1), (48, .imul, 1), (49, .if_icmp .gt 7, 3), (52, .iconst 1, 1), (53, .goto 4, 3), (56, .iconst 0, 1), (57, .ireturn, 1)]
theorem k_Mo_doesShip : sv_tk m_Mo_doesShip.2.1 t_Mo_doesShip := by decide +kernel
theorem g_Mo_doesShip : sv_G m_Mo_doesShip 2 := ⟨by decide +kernel, sv_in 1842 (by decide +kernel) rfl, sv_in 103 (by decide +kernel) rfl, ⟨by decide, by decide⟩, by decide +kernel, by decide⟩
theorem in_Mo_doesShip : Cond.instanceMethod m_Mo_doesShip.1 ∈ sv_T := sv_in 1841 (by decide +kernel) rfl
theorem se_Mo_doesShip : Cond.selects m_Mo_doesShip.1.cls m_Mo_doesShip.1 m_Mo_doesShip.1 ∈ sv_T := sv_in 77 (by decide +kernel) rfl
def F_Mo_doesShip (x1 : Int32) (x2 : Int32) (s : sv_S) : Option (Int32 × sv_S) :=
  if sv_ib x1 20 = true then
    if sv_ib x1 20 = true then
      if sv_ib x1 20 = true then
        if sv_ib x1 20 = true then
          (F_Mo_findCheap (s.1 230 x1.toNatClampNeg) (s.1 231 x1.toNatClampNeg) (s.1 232 x1.toNatClampNeg) (s.1 233 x1.toNatClampNeg) x2 s).bind fun r1 =>
          if r1.1 = 0 then
            some ((0 : Int32), r1.2)
          else
          if sv_ib x1 20 = true then
            if sv_ib x1 20 = true then
              if ((r1.2.1 233 x1.toNatClampNeg) * (r1.2.1 234 x1.toNatClampNeg)) < (r1.2.1 187 61) then
                some ((0 : Int32), r1.2)
              else
              some ((1 : Int32), r1.2)
            else none
          else none
        else none
      else none
    else none
  else none
theorem V_Mo_doesShip (E : sv_E) (d : Nat) (x1 : Int32) (x2 : Int32) (s : sv_S) : sv_V E m_Mo_doesShip (d + 2) ss_i 0 (lv_args 0 [sv_r E 187, .int x1, .int x2]) [] (ss_e s) (F_Mo_doesShip x1 x2 s) := by
  show sv_V E m_Mo_doesShip (d + 2) ss_i 0 [(0, sv_r E 187), (1, .int x1), (2, .int x2)] [] (ss_e s) _
  unfold F_Mo_doesShip
  refine sv_aload_n (pc := 0) 0 (sv_d k_Mo_doesShip 0 rfl) rfl rfl ?_
  refine sv_aload_n (pc := 1) 0 (sv_d k_Mo_doesShip 1 rfl) rfl rfl ?_
  refine sv_getf (pc := 2) 64 (sv_d k_Mo_doesShip 2 rfl) cf12 (by decide) w1366 kd187 (ss_lt (by decide)) (lr_187_64 E _) ?_
  refine sv_iload_n (pc := 5) 1 (sv_d k_Mo_doesShip 3 rfl) rfl rfl ?_
  refine ss_iald (pc := 6) (n := 20) (sv_d k_Mo_doesShip 4 rfl) kd230 (ss_lt (by decide)) rfl ?_
  refine sv_aload_n (pc := 7) 0 (sv_d k_Mo_doesShip 5 rfl) rfl rfl ?_
  refine sv_getf (pc := 8) 65 (sv_d k_Mo_doesShip 6 rfl) cf12 (by decide) w1367 kd187 (ss_lt (by decide)) (lr_187_65 E _) ?_
  refine sv_iload_n (pc := 11) 1 (sv_d k_Mo_doesShip 7 rfl) rfl rfl ?_
  refine ss_iald (pc := 12) (n := 20) (sv_d k_Mo_doesShip 8 rfl) kd231 (ss_lt (by decide)) rfl ?_
  refine sv_aload_n (pc := 13) 0 (sv_d k_Mo_doesShip 9 rfl) rfl rfl ?_
  refine sv_getf (pc := 14) 66 (sv_d k_Mo_doesShip 10 rfl) cf12 (by decide) w1368 kd187 (ss_lt (by decide)) (lr_187_66 E _) ?_
  refine sv_iload_n (pc := 17) 1 (sv_d k_Mo_doesShip 11 rfl) rfl rfl ?_
  refine ss_iald (pc := 18) (n := 20) (sv_d k_Mo_doesShip 12 rfl) kd232 (ss_lt (by decide)) rfl ?_
  refine sv_aload_n (pc := 19) 0 (sv_d k_Mo_doesShip 13 rfl) rfl rfl ?_
  refine sv_getf (pc := 20) 67 (sv_d k_Mo_doesShip 14 rfl) cf12 (by decide) w1369 kd187 (ss_lt (by decide)) (lr_187_67 E _) ?_
  refine sv_iload_n (pc := 23) 1 (sv_d k_Mo_doesShip 15 rfl) rfl rfl ?_
  refine ss_iald (pc := 24) (n := 20) (sv_d k_Mo_doesShip 16 rfl) kd233 (ss_lt (by decide)) rfl ?_
  refine sv_iload_n (pc := 25) 2 (sv_d k_Mo_doesShip 17 rfl) rfl rfl ?_
  refine sv_callV (pc := 26) (ψ := ss_i) (As := [.int (s.1 230 x1.toNatClampNeg), .int (s.1 231 x1.toNatClampNeg), .int (s.1 232 x1.toNatClampNeg), .int (s.1 233 x1.toNatClampNeg), .int x2]) (rest := []) (c := 187) (sv_d k_Mo_doesShip 18 rfl) g_Mo_findCheap w1818 in_Mo_findCheap se_Mo_findCheap cf12 kd187 (ss_lt (by decide)) rfl (Nat.le_of_ble_eq_true rfl) (V_Mo_findCheap E (d + 0) (s.1 230 x1.toNatClampNeg) (s.1 231 x1.toNatClampNeg) (s.1 232 x1.toNatClampNeg) (s.1 233 x1.toNatClampNeg) x2 s) (Nat.le_of_ble_eq_true rfl) rfl (fun r1 => ?_)
  show sv_V E _ _ _ 29 _ [.int r1.1] (ss_e r1.2) _
  refine sv_if_eq (pc := 29) (tgt := 56) (sv_d k_Mo_doesShip 19 rfl) (by decide) ?_ ?_
  · refine sv_iconst (pc := 56) (v := (0 : Int32)) (sv_d k_Mo_doesShip 34 rfl) (by decide) ?_
    exact sv_ret (pc := 57) (sv_d k_Mo_doesShip 35 rfl) ⟨_, rfl, rfl⟩ rfl
  · refine sv_aload_n (pc := 32) 0 (sv_d k_Mo_doesShip 20 rfl) rfl rfl ?_
    refine sv_getf (pc := 33) 61 (sv_d k_Mo_doesShip 21 rfl) cf12 (by decide) w1363 kd187 (ss_lt (by decide)) rfl ?_
    refine sv_aload_n (pc := 36) 0 (sv_d k_Mo_doesShip 22 rfl) rfl rfl ?_
    refine sv_getf (pc := 37) 67 (sv_d k_Mo_doesShip 23 rfl) cf12 (by decide) w1369 kd187 (ss_lt (by decide)) (lr_187_67 E _) ?_
    refine sv_iload_n (pc := 40) 1 (sv_d k_Mo_doesShip 24 rfl) rfl rfl ?_
    refine ss_iald (pc := 41) (n := 20) (sv_d k_Mo_doesShip 25 rfl) kd233 (ss_lt (by decide)) rfl ?_
    refine sv_aload_n (pc := 42) 0 (sv_d k_Mo_doesShip 26 rfl) rfl rfl ?_
    refine sv_getf (pc := 43) 68 (sv_d k_Mo_doesShip 27 rfl) cf12 (by decide) w1370 kd187 (ss_lt (by decide)) (lr_187_68 E _) ?_
    refine sv_iload_n (pc := 46) 1 (sv_d k_Mo_doesShip 28 rfl) rfl rfl ?_
    refine ss_iald (pc := 47) (n := 20) (sv_d k_Mo_doesShip 29 rfl) kd234 (ss_lt (by decide)) rfl ?_
    refine sv_imul (pc := 48) (sv_d k_Mo_doesShip 30 rfl) ?_
    refine sv_icmp_gt (pc := 49) (tgt := 56) (sv_d k_Mo_doesShip 31 rfl) (by decide) ?_ ?_
    · refine sv_iconst (pc := 56) (v := (0 : Int32)) (sv_d k_Mo_doesShip 34 rfl) (by decide) ?_
      exact sv_ret (pc := 57) (sv_d k_Mo_doesShip 35 rfl) ⟨_, rfl, rfl⟩ rfl
    · refine sv_iconst (pc := 52) (v := (1 : Int32)) (sv_d k_Mo_doesShip 32 rfl) (by decide) ?_
      refine sv_goto (pc := 53) (tgt := 57) (sv_d k_Mo_doesShip 33 rfl) (by decide) ?_
      exact sv_ret (pc := 57) (sv_d k_Mo_doesShip 35 rfl) ⟨_, rfl, rfl⟩ rfl
/-! Mo_ships -/
abbrev m_Mo_ships : sv_M := (yX12_ships, cX12_ships, 3, (some .int))
def t_Mo_ships : List (Nat × Instr × Nat) := [(0, .aload_n 0, 1), (1, .iload_n 1, 1), (2, .iconst 0, 1), (3, .aload_n 0, 1), (4, .getfield 202, 3), (7, .iconst 1, 1), (8, .isub, 1), (9, .invokevirtual 251, 3), (12, .ifCond .ne 5, 3), (15, .iconst (-1), 1), (16, .ireturn, 1), (17, .aload_n 0, 1), (18, .iload_n 2, 1), (19, .invokevirtual 346, 3), (22, .ifCond .ne 6, 3), (25, .bipush (-2), 2), (27, .ireturn, 1), (28, .aload_n 0, 1), (29, .iload_n 2, 1), (30, .invokevirtual 382, 3), (33, .aload_n 0, 1), (34, .iload_n 1, 1), (35, .iload_n 2, 1), (36, .invokevirtual 430, 3), (39, .ifCond .eq 7, 3), (42, .iconst 1, 1), (43, .goto 4, 3), (46, .iconst 0, 1), (47, .ireturn, 1)]
theorem k_Mo_ships : sv_tk m_Mo_ships.2.1 t_Mo_ships := by decide +kernel
theorem g_Mo_ships : sv_G m_Mo_ships 2 := ⟨by decide +kernel, sv_in 1838 (by decide +kernel) rfl, sv_in 103 (by decide +kernel) rfl, ⟨by decide, by decide⟩, by decide +kernel, by decide⟩
theorem in_Mo_ships : Cond.instanceMethod m_Mo_ships.1 ∈ sv_T := sv_in 1836 (by decide +kernel) rfl
theorem se_Mo_ships : Cond.selects m_Mo_ships.1.cls m_Mo_ships.1 m_Mo_ships.1 ∈ sv_T := sv_in 1837 (by decide +kernel) rfl
def F_Mo_ships (x1 : Int32) (x2 : Int32) (s : sv_S) : Option (Int32 × sv_S) :=
  (F_Mo_in x1 (0 : Int32) ((s.1 187 63) - (1 : Int32)) s).bind fun r1 =>
  if r1 = 0 then
    some ((-1 : Int32), s)
  else
  (F_Mo_isDay x2 s).bind fun r2 =>
  if r2 = 0 then
    some ((-2 : Int32), s)
  else
  (F_Mo_prepare x2 s).bind fun r3 =>
  (F_Mo_doesShip x1 x2 r3).bind fun r4 =>
  if r4.1 = 0 then
    some ((0 : Int32), r4.2)
  else
  some ((1 : Int32), r4.2)
theorem V_Mo_ships (E : sv_E) (d : Nat) (x1 : Int32) (x2 : Int32) (s : sv_S) : sv_V E m_Mo_ships (d + 9) ss_i 0 (lv_args 0 [sv_r E 187, .int x1, .int x2]) [] (ss_e s) (F_Mo_ships x1 x2 s) := by
  show sv_V E m_Mo_ships (d + 9) ss_i 0 [(0, sv_r E 187), (1, .int x1), (2, .int x2)] [] (ss_e s) _
  unfold F_Mo_ships
  refine sv_aload_n (pc := 0) 0 (sv_d k_Mo_ships 0 rfl) rfl rfl ?_
  refine sv_iload_n (pc := 1) 1 (sv_d k_Mo_ships 1 rfl) rfl rfl ?_
  refine sv_iconst (pc := 2) (v := (0 : Int32)) (sv_d k_Mo_ships 2 rfl) (by decide) ?_
  refine sv_aload_n (pc := 3) 0 (sv_d k_Mo_ships 3 rfl) rfl rfl ?_
  refine sv_getf (pc := 4) 63 (sv_d k_Mo_ships 4 rfl) cf12 (by decide) w1365 kd187 (ss_lt (by decide)) rfl ?_
  refine sv_iconst (pc := 7) (v := (1 : Int32)) (sv_d k_Mo_ships 5 rfl) (by decide) ?_
  refine sv_isub (pc := 8) (sv_d k_Mo_ships 6 rfl) ?_
  refine sv_callV (pc := 9) (ψ := (ss_pi s)) (As := [.int x1, .int (0 : Int32), .int ((s.1 187 63) - (1 : Int32))]) (rest := []) (c := 187) (sv_d k_Mo_ships 7 rfl) g_Mo_in w1545 in_Mo_in se_Mo_in cf12 kd187 (ss_lt (by decide)) rfl (Nat.le_of_ble_eq_true rfl) (V_Mo_in E (d + 8) x1 (0 : Int32) ((s.1 187 63) - (1 : Int32)) s) (Nat.le_of_ble_eq_true rfl) rfl (fun r1 => ?_)
  show sv_V E _ _ _ 12 _ [.int r1] (ss_e s) _
  refine sv_if_ne (pc := 12) (tgt := 17) (sv_d k_Mo_ships 8 rfl) (by decide) ?_ ?_
  · refine sv_aload_n (pc := 17) 0 (sv_d k_Mo_ships 11 rfl) rfl rfl ?_
    refine sv_iload_n (pc := 18) 2 (sv_d k_Mo_ships 12 rfl) rfl rfl ?_
    refine sv_callV (pc := 19) (ψ := (ss_pi s)) (As := [.int x2]) (rest := []) (c := 187) (sv_d k_Mo_ships 13 rfl) g_Mo_isDay w1594 in_Mo_isDay se_Mo_isDay cf12 kd187 (ss_lt (by decide)) rfl (Nat.le_of_ble_eq_true rfl) (V_Mo_isDay E (d + 7) x2 s) (Nat.le_of_ble_eq_true rfl) rfl (fun r2 => ?_)
    show sv_V E _ _ _ 22 _ [.int r2] (ss_e s) _
    refine sv_if_ne (pc := 22) (tgt := 28) (sv_d k_Mo_ships 14 rfl) (by decide) ?_ ?_
    · refine sv_aload_n (pc := 28) 0 (sv_d k_Mo_ships 17 rfl) rfl rfl ?_
      refine sv_iload_n (pc := 29) 2 (sv_d k_Mo_ships 18 rfl) rfl rfl ?_
      refine sv_callV (pc := 30) (ψ := ss_v) (As := [.int x2]) (rest := []) (c := 187) (sv_d k_Mo_ships 19 rfl) g_Mo_prepare w1734 in_Mo_prepare se_Mo_prepare cf12 kd187 (ss_lt (by decide)) rfl (Nat.le_of_ble_eq_true rfl) (V_Mo_prepare E (d + 0) x2 s) (Nat.le_of_ble_eq_true rfl) rfl (fun r3 => ?_)
      show sv_V E _ _ _ 33 _ [] (ss_e r3) _
      refine sv_aload_n (pc := 33) 0 (sv_d k_Mo_ships 20 rfl) rfl rfl ?_
      refine sv_iload_n (pc := 34) 1 (sv_d k_Mo_ships 21 rfl) rfl rfl ?_
      refine sv_iload_n (pc := 35) 2 (sv_d k_Mo_ships 22 rfl) rfl rfl ?_
      refine sv_callV (pc := 36) (ψ := ss_i) (As := [.int x1, .int x2]) (rest := []) (c := 187) (sv_d k_Mo_ships 23 rfl) g_Mo_doesShip w1839 in_Mo_doesShip se_Mo_doesShip cf12 kd187 (ss_lt (by decide)) rfl (Nat.le_of_ble_eq_true rfl) (V_Mo_doesShip E (d + 6) x1 x2 r3) (Nat.le_of_ble_eq_true rfl) rfl (fun r4 => ?_)
      show sv_V E _ _ _ 39 _ [.int r4.1] (ss_e r4.2) _
      refine sv_if_eq (pc := 39) (tgt := 46) (sv_d k_Mo_ships 24 rfl) (by decide) ?_ ?_
      · refine sv_iconst (pc := 46) (v := (0 : Int32)) (sv_d k_Mo_ships 27 rfl) (by decide) ?_
        exact sv_ret (pc := 47) (sv_d k_Mo_ships 28 rfl) ⟨_, rfl, rfl⟩ rfl
      · refine sv_iconst (pc := 42) (v := (1 : Int32)) (sv_d k_Mo_ships 25 rfl) (by decide) ?_
        refine sv_goto (pc := 43) (tgt := 47) (sv_d k_Mo_ships 26 rfl) (by decide) ?_
        exact sv_ret (pc := 47) (sv_d k_Mo_ships 28 rfl) ⟨_, rfl, rfl⟩ rfl
    · refine sv_bipush (pc := 25) (v := (-2 : Int32)) (sv_d k_Mo_ships 15 rfl) (by decide) ?_
      exact sv_ret (pc := 27) (sv_d k_Mo_ships 16 rfl) ⟨_, rfl, rfl⟩ rfl
  · refine sv_iconst (pc := 15) (v := (-1 : Int32)) (sv_d k_Mo_ships 9 rfl) (by decide) ?_
    exact sv_ret (pc := 16) (sv_d k_Mo_ships 10 rfl) ⟨_, rfl, rfl⟩ rfl
/-! Mo_takingsOf -/
abbrev m_Mo_takingsOf : sv_M := (yX12_takingsOf, cX12_takingsOf, 6, (some .int))
def t_Mo_takingsOf : List (Nat × Instr × Nat) := [(0, .iconst 0, 1), (1, .istore_n 3, 1), (2, .iconst 0, 1), (3, .istore 4, 2), (5, .iload 4, 2), (7, .aload_n 0, 1), (8, .getfield 202, 3), (11, .if_icmp .ge 79, 3), (14, .aload_n 0, 1), (15, .iload 4, 2), (17, .iload_n 2, 1), (18, .invokevirtual 430, 3), (21, .ifCond .ne 6, 3), (24, .goto 60, 3), (27, .iconst 0, 1), (28, .istore 5, 2), (30, .iload 5, 2), (32, .aload_n 0, 1), (33, .getfield 193, 3), (36, .if_icmp .ge 48, 3), (39, .iload_n 3, 1), (40, .iload_n 1, 1), (41, .ifCond .lt 19, 3), (44, .aload_n 0, 1), (45, .getfield 115, 3), (48, .aload_n 0, 1), (49, .getfield 199, 3), (52, .iload 5, 2), (54, .iaload, 1), (55, .iaload, 1), (56, .iload_n 1, 1), (57, .if_icmp .ne 18, 3), (60, .aload_n 0, 1), (61, .getfield 184, 3), (64, .aload_n 0, 1), (65, .getfield 199, 3), (68, .iload 5, 2), (70, .iaload, 1), (71, .iaload, 1), (72, .goto 4, 3), (75, .iconst 0, 1), (76, .iadd, 1), (77, .istore_n 3, 1), (78, .iinc 5 1, 3), (81, .goto (-51), 3), (84, .iinc 4 1, 3), (87, .goto (-82), 3), (90, .iload_n 3, 1), (91, .ireturn, 1)]
theorem k_Mo_takingsOf : sv_tk m_Mo_takingsOf.2.1 t_Mo_takingsOf := by decide +kernel
theorem g_Mo_takingsOf : sv_G m_Mo_takingsOf 2 := ⟨by decide +kernel, sv_in 1850 (by decide +kernel) rfl, sv_in 103 (by decide +kernel) rfl, ⟨by decide, by decide⟩, by decide +kernel, by decide⟩
theorem in_Mo_takingsOf : Cond.instanceMethod m_Mo_takingsOf.1 ∈ sv_T := sv_in 1849 (by decide +kernel) rfl
theorem se_Mo_takingsOf : Cond.selects m_Mo_takingsOf.1.cls m_Mo_takingsOf.1 m_Mo_takingsOf.1 ∈ sv_T := sv_in 78 (by decide +kernel) rfl
def F_Mo_takingsOf_b84 (kc5 : Int32 → Int32 → Int32 → Int32 → sv_S → Option (Int32 × sv_S)) (x1 : Int32) (x2 : Int32) (x3 : Int32) (x4 : Int32) (s : sv_S) : Option (Int32 × sv_S) :=
  ss_let (x4 + (1 : Int32)) fun v2 =>
  kc5 x1 x2 x3 v2 s
theorem V_Mo_takingsOf_b84 (E : sv_E) (d : Nat) (kc5 : Int32 → Int32 → Int32 → Int32 → sv_S → Option (Int32 × sv_S)) (hc5 : ∀ (x1 : Int32) (x2 : Int32) (x3 : Int32) (x4 : Int32) (s : sv_S), sv_V E m_Mo_takingsOf (d + 3) ss_i 5 [(0, sv_r E 187), (1, .int x1), (2, .int x2), (3, .int x3), (4, .int x4)] [] (ss_e s) (kc5 x1 x2 x3 x4 s)) (x1 : Int32) (x2 : Int32) (x3 : Int32) (x4 : Int32) (s : sv_S) : sv_V E m_Mo_takingsOf (d + 3) ss_i 84 [(0, sv_r E 187), (1, .int x1), (2, .int x2), (3, .int x3), (4, .int x4)] [] (ss_e s) (F_Mo_takingsOf_b84 kc5 x1 x2 x3 x4 s) := by
  unfold F_Mo_takingsOf_b84
  refine ss_letr (fun v2 e_v2 => ?_)
  refine sv_iinc (pc := 84) (v := v2) (lv' := [(4, .int v2), (0, sv_r E 187), (1, .int x1), (2, .int x2), (3, .int x3)]) (sv_d k_Mo_takingsOf 45 rfl) (n := 4) rfl (by rw [e_v2]; rfl) (by decide) rfl ?_
  refine sv_goto (pc := 87) (tgt := 5) (sv_d k_Mo_takingsOf 46 rfl) (by decide) ?_
  exact sv_loc [1, 2, 3, 4, 0] rfl (hc5 x1 x2 x3 v2 s)
def F_Mo_takingsOf_b76 (kc5 : Int32 → Int32 → Int32 → Int32 → sv_S → Option (Int32 × sv_S)) (kc30 : Int32 → Int32 → Int32 → Int32 → Int32 → sv_S → Option (Int32 × sv_S)) (x1 : Int32) (x2 : Int32) (x4 : Int32) (x5 : Int32) (t0 : Int32) (t1 : Int32) (s : sv_S) : Option (Int32 × sv_S) :=
  ss_let (t0 + t1) fun v3 =>
  ss_let (x5 + (1 : Int32)) fun v4 =>
  kc30 x1 x2 v3 x4 v4 s
theorem V_Mo_takingsOf_b76 (E : sv_E) (d : Nat) (kc5 : Int32 → Int32 → Int32 → Int32 → sv_S → Option (Int32 × sv_S)) (kc30 : Int32 → Int32 → Int32 → Int32 → Int32 → sv_S → Option (Int32 × sv_S)) (hc5 : ∀ (x1 : Int32) (x2 : Int32) (x3 : Int32) (x4 : Int32) (s : sv_S), sv_V E m_Mo_takingsOf (d + 3) ss_i 5 [(0, sv_r E 187), (1, .int x1), (2, .int x2), (3, .int x3), (4, .int x4)] [] (ss_e s) (kc5 x1 x2 x3 x4 s)) (hc30 : ∀ (x1 : Int32) (x2 : Int32) (x3 : Int32) (x4 : Int32) (x5 : Int32) (s : sv_S), sv_V E m_Mo_takingsOf (d + 3) ss_i 30 [(0, sv_r E 187), (1, .int x1), (2, .int x2), (3, .int x3), (4, .int x4), (5, .int x5)] [] (ss_e s) (kc30 x1 x2 x3 x4 x5 s)) (x1 : Int32) (x2 : Int32) (x4 : Int32) (x5 : Int32) (t0 : Int32) (t1 : Int32) (s : sv_S) : sv_V E m_Mo_takingsOf (d + 3) ss_i 76 [(0, sv_r E 187), (1, .int x1), (2, .int x2), (4, .int x4), (5, .int x5)] [.int t1, .int t0] (ss_e s) (F_Mo_takingsOf_b76 kc5 kc30 x1 x2 x4 x5 t0 t1 s) := by
  unfold F_Mo_takingsOf_b76
  refine sv_iadd (pc := 76) (sv_d k_Mo_takingsOf 41 rfl) ?_
  refine ss_top (fun v3 e_v3 => ?_)
  refine sv_istore_n (pc := 77) (lv' := [(3, .int v3), (0, sv_r E 187), (1, .int x1), (2, .int x2), (4, .int x4), (5, .int x5)]) (sv_d k_Mo_takingsOf 42 rfl) rfl (by decide) rfl ?_
  refine ss_letr (fun v4 e_v4 => ?_)
  refine sv_iinc (pc := 78) (v := v4) (lv' := [(5, .int v4), (3, .int v3), (0, sv_r E 187), (1, .int x1), (2, .int x2), (4, .int x4)]) (sv_d k_Mo_takingsOf 43 rfl) (n := 5) rfl (by rw [e_v4]; rfl) (by decide) rfl ?_
  refine sv_goto (pc := 81) (tgt := 30) (sv_d k_Mo_takingsOf 44 rfl) (by decide) ?_
  exact sv_loc [2, 3, 4, 1, 5, 0] rfl (hc30 x1 x2 v3 x4 v4 s)
def F_Mo_takingsOf_b60 (kc5 : Int32 → Int32 → Int32 → Int32 → sv_S → Option (Int32 × sv_S)) (kc30 : Int32 → Int32 → Int32 → Int32 → Int32 → sv_S → Option (Int32 × sv_S)) (x1 : Int32) (x2 : Int32) (x4 : Int32) (x5 : Int32) (t0 : Int32) (s : sv_S) : Option (Int32 × sv_S) :=
  if sv_ib x5 8 = true then
    if sv_ib (s.1 229 x5.toNatClampNeg) 60 = true then
      F_Mo_takingsOf_b76 kc5 kc30 x1 x2 x4 x5 t0 (s.1 227 (s.1 229 x5.toNatClampNeg).toNatClampNeg) s
    else none
  else none
theorem V_Mo_takingsOf_b60 (E : sv_E) (d : Nat) (kc5 : Int32 → Int32 → Int32 → Int32 → sv_S → Option (Int32 × sv_S)) (kc30 : Int32 → Int32 → Int32 → Int32 → Int32 → sv_S → Option (Int32 × sv_S)) (hc5 : ∀ (x1 : Int32) (x2 : Int32) (x3 : Int32) (x4 : Int32) (s : sv_S), sv_V E m_Mo_takingsOf (d + 3) ss_i 5 [(0, sv_r E 187), (1, .int x1), (2, .int x2), (3, .int x3), (4, .int x4)] [] (ss_e s) (kc5 x1 x2 x3 x4 s)) (hc30 : ∀ (x1 : Int32) (x2 : Int32) (x3 : Int32) (x4 : Int32) (x5 : Int32) (s : sv_S), sv_V E m_Mo_takingsOf (d + 3) ss_i 30 [(0, sv_r E 187), (1, .int x1), (2, .int x2), (3, .int x3), (4, .int x4), (5, .int x5)] [] (ss_e s) (kc30 x1 x2 x3 x4 x5 s)) (x1 : Int32) (x2 : Int32) (x4 : Int32) (x5 : Int32) (t0 : Int32) (s : sv_S) : sv_V E m_Mo_takingsOf (d + 3) ss_i 60 [(0, sv_r E 187), (1, .int x1), (2, .int x2), (4, .int x4), (5, .int x5)] [.int t0] (ss_e s) (F_Mo_takingsOf_b60 kc5 kc30 x1 x2 x4 x5 t0 s) := by
  unfold F_Mo_takingsOf_b60
  refine sv_aload_n (pc := 60) 0 (sv_d k_Mo_takingsOf 32 rfl) rfl rfl ?_
  refine sv_getf (pc := 61) 57 (sv_d k_Mo_takingsOf 33 rfl) cf12 (by decide) w1359 kd187 (ss_lt (by decide)) (lr_187_57 E _) ?_
  refine sv_aload_n (pc := 64) 0 (sv_d k_Mo_takingsOf 34 rfl) rfl rfl ?_
  refine sv_getf (pc := 65) 62 (sv_d k_Mo_takingsOf 35 rfl) cf12 (by decide) w1364 kd187 (ss_lt (by decide)) (lr_187_62 E _) ?_
  refine sv_iload (pc := 68) 4 (sv_d k_Mo_takingsOf 36 rfl) rfl ?_
  refine ss_iald (pc := 70) (n := 8) (sv_d k_Mo_takingsOf 37 rfl) kd229 (ss_lt (by decide)) rfl ?_
  refine ss_iald (pc := 71) (n := 60) (sv_d k_Mo_takingsOf 38 rfl) kd227 (ss_lt (by decide)) rfl ?_
  refine sv_goto (pc := 72) (tgt := 76) (sv_d k_Mo_takingsOf 39 rfl) (by decide) ?_
  exact sv_loc [0, 1, 2, 3, 4] rfl (V_Mo_takingsOf_b76 E d kc5 kc30 hc5 hc30 x1 x2 x4 x5 t0 (s.1 227 (s.1 229 x5.toNatClampNeg).toNatClampNeg) s)
def F_Mo_takingsOf_b30 (kc5 : Int32 → Int32 → Int32 → Int32 → sv_S → Option (Int32 × sv_S)) : Nat → Int32 → Int32 → Int32 → Int32 → Int32 → sv_S → Option (Int32 × sv_S)
  | 0 => fun _ _ _ _ _ _ => none
  | n + 1 => fun x1 x2 x3 x4 x5 s =>
    if (s.1 187 60) ≤ x5 then
      F_Mo_takingsOf_b84 kc5 x1 x2 x3 x4 s
    else
    if x1 < 0 then
      F_Mo_takingsOf_b60 kc5 (F_Mo_takingsOf_b30 kc5 n) x1 x2 x4 x5 x3 s
    else
    if sv_ib x5 8 = true then
      if sv_ib (s.1 229 x5.toNatClampNeg) 60 = true then
        if (s.1 206 (s.1 229 x5.toNatClampNeg).toNatClampNeg) = x1 then
          F_Mo_takingsOf_b60 kc5 (F_Mo_takingsOf_b30 kc5 n) x1 x2 x4 x5 x3 s
        else
        F_Mo_takingsOf_b76 kc5 (F_Mo_takingsOf_b30 kc5 n) x1 x2 x4 x5 x3 (0 : Int32) s
      else none
    else none
theorem V_Mo_takingsOf_b30 (E : sv_E) (d : Nat) (kc5 : Int32 → Int32 → Int32 → Int32 → sv_S → Option (Int32 × sv_S)) (hc5 : ∀ (x1 : Int32) (x2 : Int32) (x3 : Int32) (x4 : Int32) (s : sv_S), sv_V E m_Mo_takingsOf (d + 3) ss_i 5 [(0, sv_r E 187), (1, .int x1), (2, .int x2), (3, .int x3), (4, .int x4)] [] (ss_e s) (kc5 x1 x2 x3 x4 s)) : ∀ (n : Nat) (x1 : Int32) (x2 : Int32) (x3 : Int32) (x4 : Int32) (x5 : Int32) (s : sv_S), sv_V E m_Mo_takingsOf (d + 3) ss_i 30 [(0, sv_r E 187), (1, .int x1), (2, .int x2), (3, .int x3), (4, .int x4), (5, .int x5)] [] (ss_e s) (F_Mo_takingsOf_b30 kc5 n x1 x2 x3 x4 x5 s) := by
  intro n
  induction n with
  | zero => intro x1 x2 x3 x4 x5 s; exact sv_none
  | succ n ih =>
    intro x1 x2 x3 x4 x5 s
    unfold F_Mo_takingsOf_b30
    refine sv_iload (pc := 30) 5 (sv_d k_Mo_takingsOf 16 rfl) rfl ?_
    refine sv_aload_n (pc := 32) 0 (sv_d k_Mo_takingsOf 17 rfl) rfl rfl ?_
    refine sv_getf (pc := 33) 60 (sv_d k_Mo_takingsOf 18 rfl) cf12 (by decide) w1362 kd187 (ss_lt (by decide)) rfl ?_
    refine sv_icmp_ge (pc := 36) (tgt := 84) (sv_d k_Mo_takingsOf 19 rfl) (by decide) ?_ ?_
    · exact sv_loc [0, 1, 2, 3, 4] rfl (V_Mo_takingsOf_b84 E d kc5 hc5 x1 x2 x3 x4 s)
    · refine sv_iload_n (pc := 39) 3 (sv_d k_Mo_takingsOf 20 rfl) rfl rfl ?_
      refine sv_iload_n (pc := 40) 1 (sv_d k_Mo_takingsOf 21 rfl) rfl rfl ?_
      refine sv_if_lt (pc := 41) (tgt := 60) (sv_d k_Mo_takingsOf 22 rfl) (by decide) ?_ ?_
      · exact sv_loc [0, 1, 2, 4, 5] rfl (V_Mo_takingsOf_b60 E d kc5 (F_Mo_takingsOf_b30 kc5 n) hc5 ih x1 x2 x4 x5 x3 s)
      · refine sv_aload_n (pc := 44) 0 (sv_d k_Mo_takingsOf 23 rfl) rfl rfl ?_
        refine sv_getf (pc := 45) 34 (sv_d k_Mo_takingsOf 24 rfl) cf12 (by decide) w1336 kd187 (ss_lt (by decide)) (lr_187_34 E _) ?_
        refine sv_aload_n (pc := 48) 0 (sv_d k_Mo_takingsOf 25 rfl) rfl rfl ?_
        refine sv_getf (pc := 49) 62 (sv_d k_Mo_takingsOf 26 rfl) cf12 (by decide) w1364 kd187 (ss_lt (by decide)) (lr_187_62 E _) ?_
        refine sv_iload (pc := 52) 5 (sv_d k_Mo_takingsOf 27 rfl) rfl ?_
        refine ss_iald (pc := 54) (n := 8) (sv_d k_Mo_takingsOf 28 rfl) kd229 (ss_lt (by decide)) rfl ?_
        refine ss_iald (pc := 55) (n := 60) (sv_d k_Mo_takingsOf 29 rfl) kd206 (ss_lt (by decide)) rfl ?_
        refine sv_iload_n (pc := 56) 1 (sv_d k_Mo_takingsOf 30 rfl) rfl rfl ?_
        refine sv_icmp_ne (pc := 57) (tgt := 75) (sv_d k_Mo_takingsOf 31 rfl) (by decide) ?_ ?_
        · refine sv_iconst (pc := 75) (v := (0 : Int32)) (sv_d k_Mo_takingsOf 40 rfl) (by decide) ?_
          exact sv_loc [0, 1, 2, 4, 5] rfl (V_Mo_takingsOf_b76 E d kc5 (F_Mo_takingsOf_b30 kc5 n) hc5 ih x1 x2 x4 x5 x3 (0 : Int32) s)
        · exact sv_loc [0, 1, 2, 4, 5] rfl (V_Mo_takingsOf_b60 E d kc5 (F_Mo_takingsOf_b30 kc5 n) hc5 ih x1 x2 x4 x5 x3 s)
def F_Mo_takingsOf_b5 : Nat → Int32 → Int32 → Int32 → Int32 → sv_S → Option (Int32 × sv_S)
  | 0 => fun _ _ _ _ _ => none
  | n + 1 => fun x1 x2 x3 x4 s =>
    if (s.1 187 63) ≤ x4 then
      some (x3, s)
    else
    (F_Mo_doesShip x4 x2 s).bind fun r1 =>
    if r1.1 = 0 then
      F_Mo_takingsOf_b84 (F_Mo_takingsOf_b5  n) x1 x2 x3 x4 r1.2
    else
    F_Mo_takingsOf_b30 (F_Mo_takingsOf_b5  n) ss_F x1 x2 x3 x4 (0 : Int32) r1.2
theorem V_Mo_takingsOf_b5 (E : sv_E) (d : Nat) : ∀ (n : Nat) (x1 : Int32) (x2 : Int32) (x3 : Int32) (x4 : Int32) (s : sv_S), sv_V E m_Mo_takingsOf (d + 3) ss_i 5 [(0, sv_r E 187), (1, .int x1), (2, .int x2), (3, .int x3), (4, .int x4)] [] (ss_e s) (F_Mo_takingsOf_b5 n x1 x2 x3 x4 s) := by
  intro n
  induction n with
  | zero => intro x1 x2 x3 x4 s; exact sv_none
  | succ n ih =>
    intro x1 x2 x3 x4 s
    unfold F_Mo_takingsOf_b5
    refine sv_iload (pc := 5) 4 (sv_d k_Mo_takingsOf 4 rfl) rfl ?_
    refine sv_aload_n (pc := 7) 0 (sv_d k_Mo_takingsOf 5 rfl) rfl rfl ?_
    refine sv_getf (pc := 8) 63 (sv_d k_Mo_takingsOf 6 rfl) cf12 (by decide) w1365 kd187 (ss_lt (by decide)) rfl ?_
    refine sv_icmp_ge (pc := 11) (tgt := 90) (sv_d k_Mo_takingsOf 7 rfl) (by decide) ?_ ?_
    · refine sv_iload_n (pc := 90) 3 (sv_d k_Mo_takingsOf 47 rfl) rfl rfl ?_
      exact sv_ret (pc := 91) (sv_d k_Mo_takingsOf 48 rfl) ⟨_, rfl, rfl⟩ rfl
    · refine sv_aload_n (pc := 14) 0 (sv_d k_Mo_takingsOf 8 rfl) rfl rfl ?_
      refine sv_iload (pc := 15) 4 (sv_d k_Mo_takingsOf 9 rfl) rfl ?_
      refine sv_iload_n (pc := 17) 2 (sv_d k_Mo_takingsOf 10 rfl) rfl rfl ?_
      refine sv_callV (pc := 18) (ψ := ss_i) (As := [.int x4, .int x2]) (rest := []) (c := 187) (sv_d k_Mo_takingsOf 11 rfl) g_Mo_doesShip w1839 in_Mo_doesShip se_Mo_doesShip cf12 kd187 (ss_lt (by decide)) rfl (Nat.le_of_ble_eq_true rfl) (V_Mo_doesShip E (d + 0) x4 x2 s) (Nat.le_of_ble_eq_true rfl) rfl (fun r1 => ?_)
      show sv_V E _ _ _ 21 _ [.int r1.1] (ss_e r1.2) _
      refine sv_if_ne (pc := 21) (tgt := 27) (sv_d k_Mo_takingsOf 12 rfl) (by decide) ?_ ?_
      · refine sv_iconst (pc := 27) (v := (0 : Int32)) (sv_d k_Mo_takingsOf 14 rfl) (by decide) ?_
        refine sv_istore (pc := 28) (lv' := [(5, .int (0 : Int32)), (0, sv_r E 187), (1, .int x1), (2, .int x2), (3, .int x3), (4, .int x4)]) (sv_d k_Mo_takingsOf 15 rfl) (by decide) rfl ?_
        exact sv_loc [1, 2, 3, 4, 5, 0] rfl (V_Mo_takingsOf_b30 E d (F_Mo_takingsOf_b5  n) ih ss_F x1 x2 x3 x4 (0 : Int32) r1.2)
      · refine sv_goto (pc := 24) (tgt := 84) (sv_d k_Mo_takingsOf 13 rfl) (by decide) ?_
        exact sv_loc [0, 1, 2, 3, 4] rfl (V_Mo_takingsOf_b84 E d (F_Mo_takingsOf_b5  n) ih x1 x2 x3 x4 r1.2)
def F_Mo_takingsOf (x1 : Int32) (x2 : Int32) (s : sv_S) : Option (Int32 × sv_S) :=
  F_Mo_takingsOf_b5 ss_F x1 x2 (0 : Int32) (0 : Int32) s
theorem V_Mo_takingsOf (E : sv_E) (d : Nat) (x1 : Int32) (x2 : Int32) (s : sv_S) : sv_V E m_Mo_takingsOf (d + 3) ss_i 0 (lv_args 0 [sv_r E 187, .int x1, .int x2]) [] (ss_e s) (F_Mo_takingsOf x1 x2 s) := by
  show sv_V E m_Mo_takingsOf (d + 3) ss_i 0 [(0, sv_r E 187), (1, .int x1), (2, .int x2)] [] (ss_e s) _
  unfold F_Mo_takingsOf
  refine sv_iconst (pc := 0) (v := (0 : Int32)) (sv_d k_Mo_takingsOf 0 rfl) (by decide) ?_
  refine sv_istore_n (pc := 1) (lv' := [(3, .int (0 : Int32)), (0, sv_r E 187), (1, .int x1), (2, .int x2)]) (sv_d k_Mo_takingsOf 1 rfl) rfl (by decide) rfl ?_
  refine sv_iconst (pc := 2) (v := (0 : Int32)) (sv_d k_Mo_takingsOf 2 rfl) (by decide) ?_
  refine sv_istore (pc := 3) (lv' := [(4, .int (0 : Int32)), (3, .int (0 : Int32)), (0, sv_r E 187), (1, .int x1), (2, .int x2)]) (sv_d k_Mo_takingsOf 3 rfl) (by decide) rfl ?_
  exact sv_loc [2, 3, 4, 1, 0] rfl (V_Mo_takingsOf_b5 E d ss_F x1 x2 (0 : Int32) (0 : Int32) s)
/-! Mo_takings -/
abbrev m_Mo_takings : sv_M := (yX12_takings, cX12_takings, 3, (some .int))
def t_Mo_takings : List (Nat × Instr × Nat) := [(0, .aload_n 0, 1), (1, .iload_n 1, 1), (2, .iconst (-1), 1), (3, .iconst 5, 1), (4, .invokevirtual 251, 3), (7, .ifCond .ne 5, 3), (10, .iconst (-1), 1), (11, .ireturn, 1), (12, .aload_n 0, 1), (13, .iload_n 2, 1), (14, .invokevirtual 346, 3), (17, .ifCond .ne 6, 3), (20, .bipush (-2), 2), (22, .ireturn, 1), (23, .aload_n 0, 1), (24, .iload_n 2, 1), (25, .invokevirtual 382, 3), (28, .aload_n 0, 1), (29, .iload_n 1, 1), (30, .iload_n 2, 1), (31, .invokevirtual 433, 3), (34, .ireturn, 1)]
theorem k_Mo_takings : sv_tk m_Mo_takings.2.1 t_Mo_takings := by decide +kernel
theorem g_Mo_takings : sv_G m_Mo_takings 2 := ⟨by decide +kernel, sv_in 1846 (by decide +kernel) rfl, sv_in 103 (by decide +kernel) rfl, ⟨by decide, by decide⟩, by decide +kernel, by decide⟩
theorem in_Mo_takings : Cond.instanceMethod m_Mo_takings.1 ∈ sv_T := sv_in 1844 (by decide +kernel) rfl
theorem se_Mo_takings : Cond.selects m_Mo_takings.1.cls m_Mo_takings.1 m_Mo_takings.1 ∈ sv_T := sv_in 1845 (by decide +kernel) rfl
def F_Mo_takings (x1 : Int32) (x2 : Int32) (s : sv_S) : Option (Int32 × sv_S) :=
  (F_Mo_in x1 (-1 : Int32) (5 : Int32) s).bind fun r1 =>
  if r1 = 0 then
    some ((-1 : Int32), s)
  else
  (F_Mo_isDay x2 s).bind fun r2 =>
  if r2 = 0 then
    some ((-2 : Int32), s)
  else
  (F_Mo_prepare x2 s).bind fun r3 =>
  (F_Mo_takingsOf x1 x2 r3).bind fun r4 =>
  some (r4.1, r4.2)
theorem V_Mo_takings (E : sv_E) (d : Nat) (x1 : Int32) (x2 : Int32) (s : sv_S) : sv_V E m_Mo_takings (d + 9) ss_i 0 (lv_args 0 [sv_r E 187, .int x1, .int x2]) [] (ss_e s) (F_Mo_takings x1 x2 s) := by
  show sv_V E m_Mo_takings (d + 9) ss_i 0 [(0, sv_r E 187), (1, .int x1), (2, .int x2)] [] (ss_e s) _
  unfold F_Mo_takings
  refine sv_aload_n (pc := 0) 0 (sv_d k_Mo_takings 0 rfl) rfl rfl ?_
  refine sv_iload_n (pc := 1) 1 (sv_d k_Mo_takings 1 rfl) rfl rfl ?_
  refine sv_iconst (pc := 2) (v := (-1 : Int32)) (sv_d k_Mo_takings 2 rfl) (by decide) ?_
  refine sv_iconst (pc := 3) (v := (5 : Int32)) (sv_d k_Mo_takings 3 rfl) (by decide) ?_
  refine sv_callV (pc := 4) (ψ := (ss_pi s)) (As := [.int x1, .int (-1 : Int32), .int (5 : Int32)]) (rest := []) (c := 187) (sv_d k_Mo_takings 4 rfl) g_Mo_in w1545 in_Mo_in se_Mo_in cf12 kd187 (ss_lt (by decide)) rfl (Nat.le_of_ble_eq_true rfl) (V_Mo_in E (d + 8) x1 (-1 : Int32) (5 : Int32) s) (Nat.le_of_ble_eq_true rfl) rfl (fun r1 => ?_)
  show sv_V E _ _ _ 7 _ [.int r1] (ss_e s) _
  refine sv_if_ne (pc := 7) (tgt := 12) (sv_d k_Mo_takings 5 rfl) (by decide) ?_ ?_
  · refine sv_aload_n (pc := 12) 0 (sv_d k_Mo_takings 8 rfl) rfl rfl ?_
    refine sv_iload_n (pc := 13) 2 (sv_d k_Mo_takings 9 rfl) rfl rfl ?_
    refine sv_callV (pc := 14) (ψ := (ss_pi s)) (As := [.int x2]) (rest := []) (c := 187) (sv_d k_Mo_takings 10 rfl) g_Mo_isDay w1594 in_Mo_isDay se_Mo_isDay cf12 kd187 (ss_lt (by decide)) rfl (Nat.le_of_ble_eq_true rfl) (V_Mo_isDay E (d + 7) x2 s) (Nat.le_of_ble_eq_true rfl) rfl (fun r2 => ?_)
    show sv_V E _ _ _ 17 _ [.int r2] (ss_e s) _
    refine sv_if_ne (pc := 17) (tgt := 23) (sv_d k_Mo_takings 11 rfl) (by decide) ?_ ?_
    · refine sv_aload_n (pc := 23) 0 (sv_d k_Mo_takings 14 rfl) rfl rfl ?_
      refine sv_iload_n (pc := 24) 2 (sv_d k_Mo_takings 15 rfl) rfl rfl ?_
      refine sv_callV (pc := 25) (ψ := ss_v) (As := [.int x2]) (rest := []) (c := 187) (sv_d k_Mo_takings 16 rfl) g_Mo_prepare w1734 in_Mo_prepare se_Mo_prepare cf12 kd187 (ss_lt (by decide)) rfl (Nat.le_of_ble_eq_true rfl) (V_Mo_prepare E (d + 0) x2 s) (Nat.le_of_ble_eq_true rfl) rfl (fun r3 => ?_)
      show sv_V E _ _ _ 28 _ [] (ss_e r3) _
      refine sv_aload_n (pc := 28) 0 (sv_d k_Mo_takings 17 rfl) rfl rfl ?_
      refine sv_iload_n (pc := 29) 1 (sv_d k_Mo_takings 18 rfl) rfl rfl ?_
      refine sv_iload_n (pc := 30) 2 (sv_d k_Mo_takings 19 rfl) rfl rfl ?_
      refine sv_callV (pc := 31) (ψ := ss_i) (As := [.int x1, .int x2]) (rest := []) (c := 187) (sv_d k_Mo_takings 20 rfl) g_Mo_takingsOf w1847 in_Mo_takingsOf se_Mo_takingsOf cf12 kd187 (ss_lt (by decide)) rfl (Nat.le_of_ble_eq_true rfl) (V_Mo_takingsOf E (d + 5) x1 x2 r3) (Nat.le_of_ble_eq_true rfl) rfl (fun r4 => ?_)
      show sv_V E _ _ _ 34 _ [.int r4.1] (ss_e r4.2) _
      exact sv_ret (pc := 34) (sv_d k_Mo_takings 21 rfl) ⟨_, rfl, rfl⟩ rfl
    · refine sv_bipush (pc := 20) (v := (-2 : Int32)) (sv_d k_Mo_takings 12 rfl) (by decide) ?_
      exact sv_ret (pc := 22) (sv_d k_Mo_takings 13 rfl) ⟨_, rfl, rfl⟩ rfl
  · refine sv_iconst (pc := 10) (v := (-1 : Int32)) (sv_d k_Mo_takings 6 rfl) (by decide) ?_
    exact sv_ret (pc := 11) (sv_d k_Mo_takings 7 rfl) ⟨_, rfl, rfl⟩ rfl
/-! Mo_tries -/
abbrev m_Mo_tries : sv_M := (yX12_tries, cX12_tries, 6, (some .int))
def t_Mo_tries : List (Nat × Instr × Nat) := [(0, .aload_n 0, 1), (1, .iload_n 1, 1), (2, .invokevirtual 372, 3), (5, .ifCond .ne 5, 3), (8, .iconst (-1), 1), (9, .ireturn, 1), (10, .aload_n 0, 1), (11, .iload_n 2, 1), (12, .iconst 0, 1), (13, .aload_n 0, 1), (14, .getfield 112, 3), (17, .iload_n 1, 1), (18, .iaload, 1), (19, .iconst 3, 1), (20, .if_icmp .ne 8, 3), (23, .bipush 99, 2), (25, .goto 6, 3), (28, .sipush 9999, 3), (31, .invokevirtual 251, 3), (34, .ifCond .eq 11, 3), (37, .aload_n 0, 1), (38, .iload_n 3, 1), (39, .invokevirtual 346, 3), (42, .ifCond .ne 6, 3), (45, .bipush (-2), 2), (47, .ireturn, 1), (48, .aload_n 0, 1), (49, .iload_n 1, 1), (50, .invokevirtual 375, 3), (53, .bipush 6, 2), (55, .if_icmp .ne 6, 3), (58, .bipush (-3), 2), (60, .ireturn, 1), (61, .aload_n 0, 1), (62, .getfield 124, 3), (65, .iload_n 1, 1), (66, .iaload, 1), (67, .istore 4, 2), (69, .aload_n 0, 1), (70, .getfield 124, 3), (73, .iload_n 1, 1), (74, .iload_n 2, 1), (75, .iastore, 1), (76, .aload_n 0, 1), (77, .iload_n 3, 1), (78, .invokevirtual 382, 3), (81, .aload_n 0, 1), (82, .iconst (-1), 1), (83, .iload_n 3, 1), (84, .invokevirtual 433, 3), (87, .istore 5, 2), (89, .aload_n 0, 1), (90, .getfield 124, 3), (93, .iload_n 1, 1), (94, .iload 4, 2), (96, .iastore, 1), (97, .iload 5, 2), (99, .ireturn, 1)]
theorem k_Mo_tries : sv_tk m_Mo_tries.2.1 t_Mo_tries := by decide +kernel
theorem g_Mo_tries : sv_G m_Mo_tries 3 := ⟨by decide +kernel, sv_in 1854 (by decide +kernel) rfl, sv_in 103 (by decide +kernel) rfl, ⟨by decide, by decide⟩, by decide +kernel, by decide⟩
theorem in_Mo_tries : Cond.instanceMethod m_Mo_tries.1 ∈ sv_T := sv_in 1852 (by decide +kernel) rfl
theorem se_Mo_tries : Cond.selects m_Mo_tries.1.cls m_Mo_tries.1 m_Mo_tries.1 ∈ sv_T := sv_in 1853 (by decide +kernel) rfl
def F_Mo_tries_b31 (x1 : Int32) (x2 : Int32) (x3 : Int32) (t1 : Int32) (t2 : Int32) (t3 : Int32) (s : sv_S) : Option (Int32 × sv_S) :=
  (F_Mo_in t1 t2 t3 s).bind fun r2 =>
  if r2 = 0 then
    some ((-2 : Int32), s)
  else
  (F_Mo_isDay x3 s).bind fun r3 =>
  if r3 = 0 then
    some ((-2 : Int32), s)
  else
  (F_Mo_nowKind x1 s).bind fun r4 =>
  if r4 = (6 : Int32) then
    some ((-3 : Int32), s)
  else
  if sv_ib x1 60 = true then
    ss_let (s.1 209 x1.toNatClampNeg) fun v5 =>
    if sv_ib x1 60 = true then
      ss_let (ss_setI s 209 x1.toNatClampNeg x2) fun s6 =>
      (F_Mo_prepare x3 s6).bind fun r7 =>
      (F_Mo_takingsOf (-1 : Int32) x3 r7).bind fun r8 =>
      if sv_ib x1 60 = true then
        ss_let (ss_setI r8.2 209 x1.toNatClampNeg v5) fun s9 =>
        some (r8.1, s9)
      else none
    else none
  else none
theorem V_Mo_tries_b31 (E : sv_E) (d : Nat) (x1 : Int32) (x2 : Int32) (x3 : Int32) (t1 : Int32) (t2 : Int32) (t3 : Int32) (s : sv_S) : sv_V E m_Mo_tries (d + 9) ss_i 31 [(0, sv_r E 187), (1, .int x1), (2, .int x2), (3, .int x3)] [.int t3, .int t2, .int t1, sv_r E 187] (ss_e s) (F_Mo_tries_b31 x1 x2 x3 t1 t2 t3 s) := by
  unfold F_Mo_tries_b31
  refine sv_callV (pc := 31) (ψ := (ss_pi s)) (As := [.int t1, .int t2, .int t3]) (rest := []) (c := 187) (sv_d k_Mo_tries 18 rfl) g_Mo_in w1545 in_Mo_in se_Mo_in cf12 kd187 (ss_lt (by decide)) rfl (Nat.le_of_ble_eq_true rfl) (V_Mo_in E (d + 8) t1 t2 t3 s) (Nat.le_of_ble_eq_true rfl) rfl (fun r2 => ?_)
  show sv_V E _ _ _ 34 _ [.int r2] (ss_e s) _
  refine sv_if_eq (pc := 34) (tgt := 45) (sv_d k_Mo_tries 19 rfl) (by decide) ?_ ?_
  · refine sv_bipush (pc := 45) (v := (-2 : Int32)) (sv_d k_Mo_tries 24 rfl) (by decide) ?_
    exact sv_ret (pc := 47) (sv_d k_Mo_tries 25 rfl) ⟨_, rfl, rfl⟩ rfl
  · refine sv_aload_n (pc := 37) 0 (sv_d k_Mo_tries 20 rfl) rfl rfl ?_
    refine sv_iload_n (pc := 38) 3 (sv_d k_Mo_tries 21 rfl) rfl rfl ?_
    refine sv_callV (pc := 39) (ψ := (ss_pi s)) (As := [.int x3]) (rest := []) (c := 187) (sv_d k_Mo_tries 22 rfl) g_Mo_isDay w1594 in_Mo_isDay se_Mo_isDay cf12 kd187 (ss_lt (by decide)) rfl (Nat.le_of_ble_eq_true rfl) (V_Mo_isDay E (d + 7) x3 s) (Nat.le_of_ble_eq_true rfl) rfl (fun r3 => ?_)
    show sv_V E _ _ _ 42 _ [.int r3] (ss_e s) _
    refine sv_if_ne (pc := 42) (tgt := 48) (sv_d k_Mo_tries 23 rfl) (by decide) ?_ ?_
    · refine sv_aload_n (pc := 48) 0 (sv_d k_Mo_tries 26 rfl) rfl rfl ?_
      refine sv_iload_n (pc := 49) 1 (sv_d k_Mo_tries 27 rfl) rfl rfl ?_
      refine sv_callV (pc := 50) (ψ := (ss_pi s)) (As := [.int x1]) (rest := []) (c := 187) (sv_d k_Mo_tries 28 rfl) g_Mo_nowKind w1710 in_Mo_nowKind se_Mo_nowKind cf12 kd187 (ss_lt (by decide)) rfl (Nat.le_of_ble_eq_true rfl) (V_Mo_nowKind E (d + 8) x1 s) (Nat.le_of_ble_eq_true rfl) rfl (fun r4 => ?_)
      show sv_V E _ _ _ 53 _ [.int r4] (ss_e s) _
      refine sv_bipush (pc := 53) (v := (6 : Int32)) (sv_d k_Mo_tries 29 rfl) (by decide) ?_
      refine sv_icmp_ne (pc := 55) (tgt := 61) (sv_d k_Mo_tries 30 rfl) (by decide) ?_ ?_
      · refine sv_aload_n (pc := 61) 0 (sv_d k_Mo_tries 33 rfl) rfl rfl ?_
        refine sv_getf (pc := 62) 37 (sv_d k_Mo_tries 34 rfl) cf12 (by decide) w1339 kd187 (ss_lt (by decide)) (lr_187_37 E _) ?_
        refine sv_iload_n (pc := 65) 1 (sv_d k_Mo_tries 35 rfl) rfl rfl ?_
        refine ss_iald (pc := 66) (n := 60) (sv_d k_Mo_tries 36 rfl) kd209 (ss_lt (by decide)) rfl ?_
        refine ss_top (fun v5 e_v5 => ?_)
        refine sv_istore (pc := 67) (lv' := [(4, .int v5), (0, sv_r E 187), (1, .int x1), (2, .int x2), (3, .int x3)]) (sv_d k_Mo_tries 37 rfl) (by decide) rfl ?_
        refine sv_aload_n (pc := 69) 1 (sv_d k_Mo_tries 38 rfl) rfl rfl ?_
        refine sv_getf (pc := 70) 37 (sv_d k_Mo_tries 39 rfl) cf12 (by decide) w1339 kd187 (ss_lt (by decide)) (lr_187_37 E _) ?_
        refine sv_iload_n (pc := 73) 2 (sv_d k_Mo_tries 40 rfl) rfl rfl ?_
        refine sv_iload_n (pc := 74) 3 (sv_d k_Mo_tries 41 rfl) rfl rfl ?_
        refine ss_iast (pc := 75) (n := 60) (sv_d k_Mo_tries 42 rfl) kd209 (by decide) (ss_lt (by decide)) rfl (ss_lets (fun s6 e_s6 => ?_))
        refine sv_aload_n (pc := 76) 1 (sv_d k_Mo_tries 43 rfl) rfl rfl ?_
        refine sv_iload_n (pc := 77) 4 (sv_d k_Mo_tries 44 rfl) rfl rfl ?_
        refine sv_callV (pc := 78) (ψ := ss_v) (As := [.int x3]) (rest := []) (c := 187) (sv_d k_Mo_tries 45 rfl) g_Mo_prepare w1734 in_Mo_prepare se_Mo_prepare cf12 kd187 (ss_lt (by decide)) rfl (Nat.le_of_ble_eq_true rfl) (V_Mo_prepare E (d + 0) x3 s6) (Nat.le_of_ble_eq_true rfl) rfl (fun r7 => ?_)
        show sv_V E _ _ _ 81 _ [] (ss_e r7) _
        refine sv_aload_n (pc := 81) 1 (sv_d k_Mo_tries 46 rfl) rfl rfl ?_
        refine sv_iconst (pc := 82) (v := (-1 : Int32)) (sv_d k_Mo_tries 47 rfl) (by decide) ?_
        refine sv_iload_n (pc := 83) 4 (sv_d k_Mo_tries 48 rfl) rfl rfl ?_
        refine sv_callV (pc := 84) (ψ := ss_i) (As := [.int (-1 : Int32), .int x3]) (rest := []) (c := 187) (sv_d k_Mo_tries 49 rfl) g_Mo_takingsOf w1847 in_Mo_takingsOf se_Mo_takingsOf cf12 kd187 (ss_lt (by decide)) rfl (Nat.le_of_ble_eq_true rfl) (V_Mo_takingsOf E (d + 5) (-1 : Int32) x3 r7) (Nat.le_of_ble_eq_true rfl) rfl (fun r8 => ?_)
        show sv_V E _ _ _ 87 _ [.int r8.1] (ss_e r8.2) _
        refine sv_istore (pc := 87) (lv' := [(5, .int r8.1), (4, .int v5), (0, sv_r E 187), (1, .int x1), (2, .int x2), (3, .int x3)]) (sv_d k_Mo_tries 50 rfl) (by decide) rfl ?_
        refine sv_aload_n (pc := 89) 2 (sv_d k_Mo_tries 51 rfl) rfl rfl ?_
        refine sv_getf (pc := 90) 37 (sv_d k_Mo_tries 52 rfl) cf12 (by decide) w1339 kd187 (ss_lt (by decide)) (lr_187_37 E _) ?_
        refine sv_iload_n (pc := 93) 3 (sv_d k_Mo_tries 53 rfl) rfl rfl ?_
        refine sv_iload (pc := 94) 1 (sv_d k_Mo_tries 54 rfl) rfl ?_
        refine ss_iast (pc := 96) (n := 60) (sv_d k_Mo_tries 55 rfl) kd209 (by decide) (ss_lt (by decide)) rfl (ss_lets (fun s9 e_s9 => ?_))
        refine sv_iload (pc := 97) 0 (sv_d k_Mo_tries 56 rfl) rfl ?_
        exact sv_ret (pc := 99) (sv_d k_Mo_tries 57 rfl) ⟨_, rfl, rfl⟩ rfl
      · refine sv_bipush (pc := 58) (v := (-3 : Int32)) (sv_d k_Mo_tries 31 rfl) (by decide) ?_
        exact sv_ret (pc := 60) (sv_d k_Mo_tries 32 rfl) ⟨_, rfl, rfl⟩ rfl
    · refine sv_bipush (pc := 45) (v := (-2 : Int32)) (sv_d k_Mo_tries 24 rfl) (by decide) ?_
      exact sv_ret (pc := 47) (sv_d k_Mo_tries 25 rfl) ⟨_, rfl, rfl⟩ rfl
def F_Mo_tries (x1 : Int32) (x2 : Int32) (x3 : Int32) (s : sv_S) : Option (Int32 × sv_S) :=
  (F_Mo_isRate x1 s).bind fun r1 =>
  if r1 = 0 then
    some ((-1 : Int32), s)
  else
  if sv_ib x1 60 = true then
    if (s.1 205 x1.toNatClampNeg) = (3 : Int32) then
      F_Mo_tries_b31 x1 x2 x3 x2 (0 : Int32) (99 : Int32) s
    else
    F_Mo_tries_b31 x1 x2 x3 x2 (0 : Int32) (9999 : Int32) s
  else none
theorem V_Mo_tries (E : sv_E) (d : Nat) (x1 : Int32) (x2 : Int32) (x3 : Int32) (s : sv_S) : sv_V E m_Mo_tries (d + 9) ss_i 0 (lv_args 0 [sv_r E 187, .int x1, .int x2, .int x3]) [] (ss_e s) (F_Mo_tries x1 x2 x3 s) := by
  show sv_V E m_Mo_tries (d + 9) ss_i 0 [(0, sv_r E 187), (1, .int x1), (2, .int x2), (3, .int x3)] [] (ss_e s) _
  unfold F_Mo_tries
  refine sv_aload_n (pc := 0) 0 (sv_d k_Mo_tries 0 rfl) rfl rfl ?_
  refine sv_iload_n (pc := 1) 1 (sv_d k_Mo_tries 1 rfl) rfl rfl ?_
  refine sv_callV (pc := 2) (ψ := (ss_pi s)) (As := [.int x1]) (rest := []) (c := 187) (sv_d k_Mo_tries 2 rfl) g_Mo_isRate w1706 in_Mo_isRate se_Mo_isRate cf12 kd187 (ss_lt (by decide)) rfl (Nat.le_of_ble_eq_true rfl) (V_Mo_isRate E (d + 7) x1 s) (Nat.le_of_ble_eq_true rfl) rfl (fun r1 => ?_)
  show sv_V E _ _ _ 5 _ [.int r1] (ss_e s) _
  refine sv_if_ne (pc := 5) (tgt := 10) (sv_d k_Mo_tries 3 rfl) (by decide) ?_ ?_
  · refine sv_aload_n (pc := 10) 0 (sv_d k_Mo_tries 6 rfl) rfl rfl ?_
    refine sv_iload_n (pc := 11) 2 (sv_d k_Mo_tries 7 rfl) rfl rfl ?_
    refine sv_iconst (pc := 12) (v := (0 : Int32)) (sv_d k_Mo_tries 8 rfl) (by decide) ?_
    refine sv_aload_n (pc := 13) 0 (sv_d k_Mo_tries 9 rfl) rfl rfl ?_
    refine sv_getf (pc := 14) 33 (sv_d k_Mo_tries 10 rfl) cf12 (by decide) w1335 kd187 (ss_lt (by decide)) (lr_187_33 E _) ?_
    refine sv_iload_n (pc := 17) 1 (sv_d k_Mo_tries 11 rfl) rfl rfl ?_
    refine ss_iald (pc := 18) (n := 60) (sv_d k_Mo_tries 12 rfl) kd205 (ss_lt (by decide)) rfl ?_
    refine sv_iconst (pc := 19) (v := (3 : Int32)) (sv_d k_Mo_tries 13 rfl) (by decide) ?_
    refine sv_icmp_ne (pc := 20) (tgt := 28) (sv_d k_Mo_tries 14 rfl) (by decide) ?_ ?_
    · refine sv_sipush (pc := 28) (v := (9999 : Int32)) (sv_d k_Mo_tries 17 rfl) (by decide) ?_
      exact sv_loc [0, 1, 2, 3] rfl (V_Mo_tries_b31 E d x1 x2 x3 x2 (0 : Int32) (9999 : Int32) s)
    · refine sv_bipush (pc := 23) (v := (99 : Int32)) (sv_d k_Mo_tries 15 rfl) (by decide) ?_
      refine sv_goto (pc := 25) (tgt := 31) (sv_d k_Mo_tries 16 rfl) (by decide) ?_
      exact sv_loc [0, 1, 2, 3] rfl (V_Mo_tries_b31 E d x1 x2 x3 x2 (0 : Int32) (99 : Int32) s)
  · refine sv_iconst (pc := 8) (v := (-1 : Int32)) (sv_d k_Mo_tries 4 rfl) (by decide) ?_
    exact sv_ret (pc := 9) (sv_d k_Mo_tries 5 rfl) ⟨_, rfl, rfl⟩ rfl
/-! Mo_list -/
abbrev m_Mo_list : sv_M := (yX12_list, cX12_list, 3, (some .int))
def t_Mo_list : List (Nat × Instr × Nat) := [(0, .aload_n 0, 1), (1, .iload_n 1, 1), (2, .invokevirtual 372, 3), (5, .ifCond .ne 5, 3), (8, .iconst (-1), 1), (9, .ireturn, 1), (10, .iconst 0, 1), (11, .istore_n 2, 1), (12, .iload_n 2, 1), (13, .aload_n 0, 1), (14, .getfield 220, 3), (17, .if_icmp .ge 22, 3), (20, .aload_n 0, 1), (21, .getfield 223, 3), (24, .iload_n 2, 1), (25, .iaload, 1), (26, .iload_n 1, 1), (27, .if_icmp .ne 6, 3), (30, .bipush (-3), 2), (32, .ireturn, 1), (33, .iinc 2 1, 3), (36, .goto (-24), 3), (39, .aload_n 0, 1), (40, .iload_n 1, 1), (41, .invokevirtual 375, 3), (44, .bipush 6, 2), (46, .if_icmp .eq 33, 3), (49, .aload_n 0, 1), (50, .getfield 112, 3), (53, .iload_n 1, 1), (54, .iaload, 1), (55, .iconst 3, 1), (56, .if_icmp .eq 23, 3), (59, .aload_n 0, 1), (60, .iconst (-1), 1), (61, .aload_n 0, 1), (62, .getfield 118, 3), (65, .iload_n 1, 1), (66, .iaload, 1), (67, .aload_n 0, 1), (68, .getfield 121, 3), (71, .iload_n 1, 1), (72, .iaload, 1), (73, .invokevirtual 267, 3), (76, .ifCond .ge 6, 3), (79, .bipush (-3), 2), (81, .ireturn, 1), (82, .aload_n 0, 1), (83, .getfield 220, 3), (86, .bipush 10, 2), (88, .if_icmp .ne 6, 3), (91, .bipush (-4), 2), (93, .ireturn, 1), (94, .aload_n 0, 1), (95, .getfield 223, 3), (98, .aload_n 0, 1), (99, .getfield 220, 3), (102, .iload_n 1, 1), (103, .iastore, 1), (104, .aload_n 0, 1), (105, .dup, 1), (106, .getfield 220, 3), (109, .iconst 1, 1), (110, .iadd, 1), (111, .putfield 220, 3), (114, .aload_n 0, 1), (115, .getfield 220, 3), (118, .ireturn, 1)]
theorem k_Mo_list : sv_tk m_Mo_list.2.1 t_Mo_list := by decide +kernel
theorem g_Mo_list : sv_G m_Mo_list 1 := ⟨by decide +kernel, sv_in 1858 (by decide +kernel) rfl, sv_in 103 (by decide +kernel) rfl, ⟨by decide, by decide⟩, by decide +kernel, by decide⟩
theorem in_Mo_list : Cond.instanceMethod m_Mo_list.1 ∈ sv_T := sv_in 1856 (by decide +kernel) rfl
theorem se_Mo_list : Cond.selects m_Mo_list.1.cls m_Mo_list.1 m_Mo_list.1 ∈ sv_T := sv_in 1857 (by decide +kernel) rfl
def F_Mo_list_b12 : Nat → Int32 → Int32 → sv_S → Option (Int32 × sv_S)
  | 0 => fun _ _ _ => none
  | n + 1 => fun x1 x2 s =>
    if (s.1 187 69) ≤ x2 then
      (F_Mo_nowKind x1 s).bind fun r2 =>
      if r2 = (6 : Int32) then
        some ((-3 : Int32), s)
      else
      if sv_ib x1 60 = true then
        if (s.1 205 x1.toNatClampNeg) = (3 : Int32) then
          some ((-3 : Int32), s)
        else
        if sv_ib x1 60 = true then
          if sv_ib x1 60 = true then
            (F_Mo_milesBy (-1 : Int32) (s.1 207 x1.toNatClampNeg) (s.1 208 x1.toNatClampNeg) s).bind fun r3 =>
            if 0 ≤ r3.1 then
              if (r3.2.1 187 69) = (10 : Int32) then
                some ((-4 : Int32), r3.2)
              else
              if sv_ib (r3.2.1 187 69) 10 = true then
                ss_let (ss_setI r3.2 235 (r3.2.1 187 69).toNatClampNeg x1) fun s4 =>
                ss_let (ss_setI s4 187 69 ((s4.1 187 69) + (1 : Int32))) fun s5 =>
                some (s5.1 187 69, s5)
              else none
            else
            some ((-3 : Int32), r3.2)
          else none
        else none
      else none
    else
    if sv_ib x2 10 = true then
      if (s.1 235 x2.toNatClampNeg) = x1 then
        some ((-3 : Int32), s)
      else
      ss_let (x2 + (1 : Int32)) fun v6 =>
      F_Mo_list_b12  n x1 v6 s
    else none
theorem V_Mo_list_b12 (E : sv_E) (d : Nat) : ∀ (n : Nat) (x1 : Int32) (x2 : Int32) (s : sv_S), sv_V E m_Mo_list (d + 2) ss_i 12 [(0, sv_r E 187), (1, .int x1), (2, .int x2)] [] (ss_e s) (F_Mo_list_b12 n x1 x2 s) := by
  intro n
  induction n with
  | zero => intro x1 x2 s; exact sv_none
  | succ n ih =>
    intro x1 x2 s
    unfold F_Mo_list_b12
    refine sv_iload_n (pc := 12) 2 (sv_d k_Mo_list 8 rfl) rfl rfl ?_
    refine sv_aload_n (pc := 13) 0 (sv_d k_Mo_list 9 rfl) rfl rfl ?_
    refine sv_getf (pc := 14) 69 (sv_d k_Mo_list 10 rfl) cf12 (by decide) w1371 kd187 (ss_lt (by decide)) rfl ?_
    refine sv_icmp_ge (pc := 17) (tgt := 39) (sv_d k_Mo_list 11 rfl) (by decide) ?_ ?_
    · refine sv_aload_n (pc := 39) 0 (sv_d k_Mo_list 22 rfl) rfl rfl ?_
      refine sv_iload_n (pc := 40) 1 (sv_d k_Mo_list 23 rfl) rfl rfl ?_
      refine sv_callV (pc := 41) (ψ := (ss_pi s)) (As := [.int x1]) (rest := []) (c := 187) (sv_d k_Mo_list 24 rfl) g_Mo_nowKind w1710 in_Mo_nowKind se_Mo_nowKind cf12 kd187 (ss_lt (by decide)) rfl (Nat.le_of_ble_eq_true rfl) (V_Mo_nowKind E (d + 1) x1 s) (Nat.le_of_ble_eq_true rfl) rfl (fun r2 => ?_)
      show sv_V E _ _ _ 44 _ [.int r2] (ss_e s) _
      refine sv_bipush (pc := 44) (v := (6 : Int32)) (sv_d k_Mo_list 25 rfl) (by decide) ?_
      refine sv_icmp_eq (pc := 46) (tgt := 79) (sv_d k_Mo_list 26 rfl) (by decide) ?_ ?_
      · refine sv_bipush (pc := 79) (v := (-3 : Int32)) (sv_d k_Mo_list 45 rfl) (by decide) ?_
        exact sv_ret (pc := 81) (sv_d k_Mo_list 46 rfl) ⟨_, rfl, rfl⟩ rfl
      · refine sv_aload_n (pc := 49) 0 (sv_d k_Mo_list 27 rfl) rfl rfl ?_
        refine sv_getf (pc := 50) 33 (sv_d k_Mo_list 28 rfl) cf12 (by decide) w1335 kd187 (ss_lt (by decide)) (lr_187_33 E _) ?_
        refine sv_iload_n (pc := 53) 1 (sv_d k_Mo_list 29 rfl) rfl rfl ?_
        refine ss_iald (pc := 54) (n := 60) (sv_d k_Mo_list 30 rfl) kd205 (ss_lt (by decide)) rfl ?_
        refine sv_iconst (pc := 55) (v := (3 : Int32)) (sv_d k_Mo_list 31 rfl) (by decide) ?_
        refine sv_icmp_eq (pc := 56) (tgt := 79) (sv_d k_Mo_list 32 rfl) (by decide) ?_ ?_
        · refine sv_bipush (pc := 79) (v := (-3 : Int32)) (sv_d k_Mo_list 45 rfl) (by decide) ?_
          exact sv_ret (pc := 81) (sv_d k_Mo_list 46 rfl) ⟨_, rfl, rfl⟩ rfl
        · refine sv_aload_n (pc := 59) 0 (sv_d k_Mo_list 33 rfl) rfl rfl ?_
          refine sv_iconst (pc := 60) (v := (-1 : Int32)) (sv_d k_Mo_list 34 rfl) (by decide) ?_
          refine sv_aload_n (pc := 61) 0 (sv_d k_Mo_list 35 rfl) rfl rfl ?_
          refine sv_getf (pc := 62) 35 (sv_d k_Mo_list 36 rfl) cf12 (by decide) w1337 kd187 (ss_lt (by decide)) (lr_187_35 E _) ?_
          refine sv_iload_n (pc := 65) 1 (sv_d k_Mo_list 37 rfl) rfl rfl ?_
          refine ss_iald (pc := 66) (n := 60) (sv_d k_Mo_list 38 rfl) kd207 (ss_lt (by decide)) rfl ?_
          refine sv_aload_n (pc := 67) 0 (sv_d k_Mo_list 39 rfl) rfl rfl ?_
          refine sv_getf (pc := 68) 36 (sv_d k_Mo_list 40 rfl) cf12 (by decide) w1338 kd187 (ss_lt (by decide)) (lr_187_36 E _) ?_
          refine sv_iload_n (pc := 71) 1 (sv_d k_Mo_list 41 rfl) rfl rfl ?_
          refine ss_iald (pc := 72) (n := 60) (sv_d k_Mo_list 42 rfl) kd208 (ss_lt (by decide)) rfl ?_
          refine sv_callV (pc := 73) (ψ := ss_i) (As := [.int (-1 : Int32), .int (s.1 207 x1.toNatClampNeg), .int (s.1 208 x1.toNatClampNeg)]) (rest := []) (c := 187) (sv_d k_Mo_list 43 rfl) g_Mo_milesBy w1565 in_Mo_milesBy se_Mo_milesBy cf12 kd187 (ss_lt (by decide)) rfl (Nat.le_of_ble_eq_true rfl) (V_Mo_milesBy E (d + 0) (-1 : Int32) (s.1 207 x1.toNatClampNeg) (s.1 208 x1.toNatClampNeg) s) (Nat.le_of_ble_eq_true rfl) rfl (fun r3 => ?_)
          show sv_V E _ _ _ 76 _ [.int r3.1] (ss_e r3.2) _
          refine sv_if_ge (pc := 76) (tgt := 82) (sv_d k_Mo_list 44 rfl) (by decide) ?_ ?_
          · refine sv_aload_n (pc := 82) 0 (sv_d k_Mo_list 47 rfl) rfl rfl ?_
            refine sv_getf (pc := 83) 69 (sv_d k_Mo_list 48 rfl) cf12 (by decide) w1371 kd187 (ss_lt (by decide)) rfl ?_
            refine sv_bipush (pc := 86) (v := (10 : Int32)) (sv_d k_Mo_list 49 rfl) (by decide) ?_
            refine sv_icmp_ne (pc := 88) (tgt := 94) (sv_d k_Mo_list 50 rfl) (by decide) ?_ ?_
            · refine sv_aload_n (pc := 94) 0 (sv_d k_Mo_list 53 rfl) rfl rfl ?_
              refine sv_getf (pc := 95) 70 (sv_d k_Mo_list 54 rfl) cf12 (by decide) w1372 kd187 (ss_lt (by decide)) (lr_187_70 E _) ?_
              refine sv_aload_n (pc := 98) 0 (sv_d k_Mo_list 55 rfl) rfl rfl ?_
              refine sv_getf (pc := 99) 69 (sv_d k_Mo_list 56 rfl) cf12 (by decide) w1371 kd187 (ss_lt (by decide)) rfl ?_
              refine sv_iload_n (pc := 102) 1 (sv_d k_Mo_list 57 rfl) rfl rfl ?_
              refine ss_iast (pc := 103) (n := 10) (sv_d k_Mo_list 58 rfl) kd235 (by decide) (ss_lt (by decide)) rfl (ss_lets (fun s4 e_s4 => ?_))
              refine sv_aload_n (pc := 104) 0 (sv_d k_Mo_list 59 rfl) rfl rfl ?_
              refine sv_dup (pc := 105) (sv_d k_Mo_list 60 rfl) rfl ?_
              refine sv_getf (pc := 106) 69 (sv_d k_Mo_list 61 rfl) cf12 (by decide) w1371 kd187 (ss_lt (by decide)) rfl ?_
              refine sv_iconst (pc := 109) (v := (1 : Int32)) (sv_d k_Mo_list 62 rfl) (by decide) ?_
              refine sv_iadd (pc := 110) (sv_d k_Mo_list 63 rfl) ?_
              refine ss_putI (pc := 111) 69 (sv_d k_Mo_list 64 rfl) cf12 (by decide) rfl w1371 kd187 (ss_lt (by decide)) rfl rfl (fun _ => rfl) (ss_lets (fun s5 e_s5 => ?_))
              refine sv_aload_n (pc := 114) 0 (sv_d k_Mo_list 65 rfl) rfl rfl ?_
              refine sv_getf (pc := 115) 69 (sv_d k_Mo_list 66 rfl) cf12 (by decide) w1371 kd187 (ss_lt (by decide)) rfl ?_
              exact sv_ret (pc := 118) (sv_d k_Mo_list 67 rfl) ⟨_, rfl, rfl⟩ rfl
            · refine sv_bipush (pc := 91) (v := (-4 : Int32)) (sv_d k_Mo_list 51 rfl) (by decide) ?_
              exact sv_ret (pc := 93) (sv_d k_Mo_list 52 rfl) ⟨_, rfl, rfl⟩ rfl
          · refine sv_bipush (pc := 79) (v := (-3 : Int32)) (sv_d k_Mo_list 45 rfl) (by decide) ?_
            exact sv_ret (pc := 81) (sv_d k_Mo_list 46 rfl) ⟨_, rfl, rfl⟩ rfl
    · refine sv_aload_n (pc := 20) 0 (sv_d k_Mo_list 12 rfl) rfl rfl ?_
      refine sv_getf (pc := 21) 70 (sv_d k_Mo_list 13 rfl) cf12 (by decide) w1372 kd187 (ss_lt (by decide)) (lr_187_70 E _) ?_
      refine sv_iload_n (pc := 24) 2 (sv_d k_Mo_list 14 rfl) rfl rfl ?_
      refine ss_iald (pc := 25) (n := 10) (sv_d k_Mo_list 15 rfl) kd235 (ss_lt (by decide)) rfl ?_
      refine sv_iload_n (pc := 26) 1 (sv_d k_Mo_list 16 rfl) rfl rfl ?_
      refine sv_icmp_ne (pc := 27) (tgt := 33) (sv_d k_Mo_list 17 rfl) (by decide) ?_ ?_
      · refine ss_letr (fun v6 e_v6 => ?_)
        refine sv_iinc (pc := 33) (v := v6) (lv' := [(2, .int v6), (0, sv_r E 187), (1, .int x1)]) (sv_d k_Mo_list 20 rfl) (n := 2) rfl (by rw [e_v6]; rfl) (by decide) rfl ?_
        refine sv_goto (pc := 36) (tgt := 12) (sv_d k_Mo_list 21 rfl) (by decide) ?_
        exact sv_loc [1, 2, 0] rfl (ih x1 v6 s)
      · refine sv_bipush (pc := 30) (v := (-3 : Int32)) (sv_d k_Mo_list 18 rfl) (by decide) ?_
        exact sv_ret (pc := 32) (sv_d k_Mo_list 19 rfl) ⟨_, rfl, rfl⟩ rfl
def F_Mo_list (x1 : Int32) (s : sv_S) : Option (Int32 × sv_S) :=
  (F_Mo_isRate x1 s).bind fun r1 =>
  if r1 = 0 then
    some ((-1 : Int32), s)
  else
  F_Mo_list_b12 ss_F x1 (0 : Int32) s
theorem V_Mo_list (E : sv_E) (d : Nat) (x1 : Int32) (s : sv_S) : sv_V E m_Mo_list (d + 2) ss_i 0 (lv_args 0 [sv_r E 187, .int x1]) [] (ss_e s) (F_Mo_list x1 s) := by
  show sv_V E m_Mo_list (d + 2) ss_i 0 [(0, sv_r E 187), (1, .int x1)] [] (ss_e s) _
  unfold F_Mo_list
  refine sv_aload_n (pc := 0) 0 (sv_d k_Mo_list 0 rfl) rfl rfl ?_
  refine sv_iload_n (pc := 1) 1 (sv_d k_Mo_list 1 rfl) rfl rfl ?_
  refine sv_callV (pc := 2) (ψ := (ss_pi s)) (As := [.int x1]) (rest := []) (c := 187) (sv_d k_Mo_list 2 rfl) g_Mo_isRate w1706 in_Mo_isRate se_Mo_isRate cf12 kd187 (ss_lt (by decide)) rfl (Nat.le_of_ble_eq_true rfl) (V_Mo_isRate E (d + 0) x1 s) (Nat.le_of_ble_eq_true rfl) rfl (fun r1 => ?_)
  show sv_V E _ _ _ 5 _ [.int r1] (ss_e s) _
  refine sv_if_ne (pc := 5) (tgt := 10) (sv_d k_Mo_list 3 rfl) (by decide) ?_ ?_
  · refine sv_iconst (pc := 10) (v := (0 : Int32)) (sv_d k_Mo_list 6 rfl) (by decide) ?_
    refine sv_istore_n (pc := 11) (lv' := [(2, .int (0 : Int32)), (0, sv_r E 187), (1, .int x1)]) (sv_d k_Mo_list 7 rfl) rfl (by decide) rfl ?_
    exact sv_loc [1, 2, 0] rfl (V_Mo_list_b12 E d ss_F x1 (0 : Int32) s)
  · refine sv_iconst (pc := 8) (v := (-1 : Int32)) (sv_d k_Mo_list 4 rfl) (by decide) ?_
    exact sv_ret (pc := 9) (sv_d k_Mo_list 5 rfl) ⟨_, rfl, rfl⟩ rfl
/-! Mo_listless -/
abbrev m_Mo_listless : sv_M := (yX12_listless, cX12_listless, 2, (some .int))
def t_Mo_listless : List (Nat × Instr × Nat) := [(0, .aload_n 0, 1), (1, .getfield 220, 3), (4, .istore_n 1, 1), (5, .aload_n 0, 1), (6, .iconst 0, 1), (7, .putfield 220, 3), (10, .iload_n 1, 1), (11, .ireturn, 1)]
theorem k_Mo_listless : sv_tk m_Mo_listless.2.1 t_Mo_listless := by decide +kernel
theorem g_Mo_listless : sv_G m_Mo_listless 0 := ⟨by decide +kernel, sv_in 1862 (by decide +kernel) rfl, sv_in 103 (by decide +kernel) rfl, ⟨by decide, by decide⟩, by decide +kernel, by decide⟩
theorem in_Mo_listless : Cond.instanceMethod m_Mo_listless.1 ∈ sv_T := sv_in 1860 (by decide +kernel) rfl
theorem se_Mo_listless : Cond.selects m_Mo_listless.1.cls m_Mo_listless.1 m_Mo_listless.1 ∈ sv_T := sv_in 1861 (by decide +kernel) rfl
def F_Mo_listless (s : sv_S) : Option (Int32 × sv_S) :=
  ss_let (s.1 187 69) fun v1 =>
  ss_let (ss_setI s 187 69 (0 : Int32)) fun s2 =>
  some (v1, s2)
theorem V_Mo_listless (E : sv_E) (d : Nat) (s : sv_S) : sv_V E m_Mo_listless (d + 0) ss_i 0 (lv_args 0 [sv_r E 187]) [] (ss_e s) (F_Mo_listless s) := by
  show sv_V E m_Mo_listless (d + 0) ss_i 0 [(0, sv_r E 187)] [] (ss_e s) _
  unfold F_Mo_listless
  refine sv_aload_n (pc := 0) 0 (sv_d k_Mo_listless 0 rfl) rfl rfl ?_
  refine sv_getf (pc := 1) 69 (sv_d k_Mo_listless 1 rfl) cf12 (by decide) w1371 kd187 (ss_lt (by decide)) rfl ?_
  refine ss_top (fun v1 e_v1 => ?_)
  refine sv_istore_n (pc := 4) (lv' := [(1, .int v1), (0, sv_r E 187)]) (sv_d k_Mo_listless 2 rfl) rfl (by decide) rfl ?_
  refine sv_aload_n (pc := 5) 1 (sv_d k_Mo_listless 3 rfl) rfl rfl ?_
  refine sv_iconst (pc := 6) (v := (0 : Int32)) (sv_d k_Mo_listless 4 rfl) (by decide) ?_
  refine ss_putI (pc := 7) 69 (sv_d k_Mo_listless 5 rfl) cf12 (by decide) rfl w1371 kd187 (ss_lt (by decide)) rfl rfl (fun _ => rfl) (ss_lets (fun s2 e_s2 => ?_))
  refine sv_iload_n (pc := 10) 0 (sv_d k_Mo_listless 6 rfl) rfl rfl ?_
  exact sv_ret (pc := 11) (sv_d k_Mo_listless 7 rfl) ⟨_, rfl, rfl⟩ rfl
/-! Mo_ones -/
abbrev m_Mo_ones : sv_M := (yX12_ones, cX12_ones, 4, (some .int))
def t_Mo_ones : List (Nat × Instr × Nat) := [(0, .iconst 0, 1), (1, .istore_n 2, 1), (2, .iload_n 1, 1), (3, .istore_n 3, 1), (4, .iload_n 3, 1), (5, .ifCond .eq 15, 3), (8, .iinc 2 1, 3), (11, .iload_n 3, 1), (12, .iload_n 3, 1), (13, .iconst 1, 1), (14, .isub, 1), (15, .iand, 1), (16, .istore_n 3, 1), (17, .goto (-13), 3), (20, .iload_n 2, 1), (21, .ireturn, 1)]
theorem k_Mo_ones : sv_tk m_Mo_ones.2.1 t_Mo_ones := by decide +kernel
theorem g_Mo_ones : sv_G m_Mo_ones 1 := ⟨by decide +kernel, sv_in 1870 (by decide +kernel) rfl, sv_in 103 (by decide +kernel) rfl, ⟨by decide, by decide⟩, by decide +kernel, by decide⟩
theorem in_Mo_ones : Cond.instanceMethod m_Mo_ones.1 ∈ sv_T := sv_in 1869 (by decide +kernel) rfl
theorem se_Mo_ones : Cond.selects m_Mo_ones.1.cls m_Mo_ones.1 m_Mo_ones.1 ∈ sv_T := sv_in 79 (by decide +kernel) rfl
def F_Mo_ones_b4 (s : sv_S) : Nat → Int32 → Int32 → Option (Int32)
  | 0 => fun _ _ => none
  | n + 1 => fun x2 x3 =>
    if x3 = 0 then
      some x2
    else
    ss_let (x2 + (1 : Int32)) fun v1 =>
    ss_let (x3 &&& (x3 - (1 : Int32))) fun v2 =>
    F_Mo_ones_b4 s n v1 v2
theorem V_Mo_ones_b4 (E : sv_E) (d : Nat) (s : sv_S) : ∀ (n : Nat) (x2 : Int32) (x3 : Int32), sv_V E m_Mo_ones (d + 0) (ss_pi s) 4 [(2, .int x2), (3, .int x3)] [] (ss_e s) (F_Mo_ones_b4 s n x2 x3) := by
  intro n
  induction n with
  | zero => intro x2 x3; exact sv_none
  | succ n ih =>
    intro x2 x3
    unfold F_Mo_ones_b4
    refine sv_iload_n (pc := 4) 1 (sv_d k_Mo_ones 4 rfl) rfl rfl ?_
    refine sv_if_eq (pc := 5) (tgt := 20) (sv_d k_Mo_ones 5 rfl) (by decide) ?_ ?_
    · refine sv_iload_n (pc := 20) 0 (sv_d k_Mo_ones 14 rfl) rfl rfl ?_
      exact sv_ret (pc := 21) (sv_d k_Mo_ones 15 rfl) ⟨_, rfl, rfl⟩ rfl
    · refine ss_letr (fun v1 e_v1 => ?_)
      refine sv_iinc (pc := 8) (v := v1) (lv' := [(2, .int v1), (3, .int x3)]) (sv_d k_Mo_ones 6 rfl) (n := 0) rfl (by rw [e_v1]; rfl) (by decide) rfl ?_
      refine sv_iload_n (pc := 11) 1 (sv_d k_Mo_ones 7 rfl) rfl rfl ?_
      refine sv_iload_n (pc := 12) 1 (sv_d k_Mo_ones 8 rfl) rfl rfl ?_
      refine sv_iconst (pc := 13) (v := (1 : Int32)) (sv_d k_Mo_ones 9 rfl) (by decide) ?_
      refine sv_isub (pc := 14) (sv_d k_Mo_ones 10 rfl) ?_
      refine sv_iand (pc := 15) (sv_d k_Mo_ones 11 rfl) ?_
      refine ss_top (fun v2 e_v2 => ?_)
      refine sv_istore_n (pc := 16) (lv' := [(3, .int v2), (2, .int v1)]) (sv_d k_Mo_ones 12 rfl) rfl (by decide) rfl ?_
      refine sv_goto (pc := 17) (tgt := 4) (sv_d k_Mo_ones 13 rfl) (by decide) ?_
      exact sv_loc [1, 0] rfl (ih v1 v2)
def F_Mo_ones (x1 : Int32) (s : sv_S) : Option (Int32) :=
  F_Mo_ones_b4 s ss_F (0 : Int32) x1
theorem V_Mo_ones (E : sv_E) (d : Nat) (x1 : Int32) (s : sv_S) : sv_V E m_Mo_ones (d + 0) (ss_pi s) 0 (lv_args 0 [sv_r E 187, .int x1]) [] (ss_e s) (F_Mo_ones x1 s) := by
  show sv_V E m_Mo_ones (d + 0) (ss_pi s) 0 [(0, sv_r E 187), (1, .int x1)] [] (ss_e s) _
  unfold F_Mo_ones
  refine sv_iconst (pc := 0) (v := (0 : Int32)) (sv_d k_Mo_ones 0 rfl) (by decide) ?_
  refine sv_istore_n (pc := 1) (lv' := [(2, .int (0 : Int32)), (0, sv_r E 187), (1, .int x1)]) (sv_d k_Mo_ones 1 rfl) rfl (by decide) rfl ?_
  refine sv_iload_n (pc := 2) 2 (sv_d k_Mo_ones 2 rfl) rfl rfl ?_
  refine sv_istore_n (pc := 3) (lv' := [(3, .int x1), (2, .int (0 : Int32)), (0, sv_r E 187), (1, .int x1)]) (sv_d k_Mo_ones 3 rfl) rfl (by decide) rfl ?_
  exact sv_loc [1, 0] rfl (V_Mo_ones_b4 E d s ss_F (0 : Int32) x1)
/-! Mo_change -/
abbrev m_Mo_change : sv_M := (yX12_change, cX12_change, 5, (some .int))
def t_Mo_change : List (Nat × Instr × Nat) := [(0, .iload_n 1, 1), (1, .ifCond .ge 6, 3), (4, .bipush (-2), 2), (6, .ireturn, 1), (7, .iconst 0, 1), (8, .istore_n 2, 1), (9, .iload_n 2, 1), (10, .aload_n 0, 1), (11, .getfield 220, 3), (14, .if_icmp .ge 61, 3), (17, .aload_n 0, 1), (18, .aload_n 0, 1), (19, .getfield 223, 3), (22, .iload_n 2, 1), (23, .iaload, 1), (24, .aload_n 0, 1), (25, .getfield 7, 3), (28, .invokevirtual 389, 3), (31, .istore_n 3, 1), (32, .aload_n 0, 1), (33, .getfield 226, 3), (36, .iload_n 2, 1), (37, .iload_n 3, 1), (38, .sipush 9999, 3), (41, .if_icmp .le 9, 3), (44, .sipush 9999, 3), (47, .goto 4, 3), (50, .iload_n 3, 1), (51, .iastore, 1), (52, .aload_n 0, 1), (53, .getfield 229, 3), (56, .iload_n 2, 1), (57, .aload_n 0, 1), (58, .getfield 124, 3), (61, .aload_n 0, 1), (62, .getfield 223, 3), (65, .iload_n 2, 1), (66, .iaload, 1), (67, .iaload, 1), (68, .iastore, 1), (69, .iinc 2 1, 3), (72, .goto (-63), 3), (75, .aload_n 0, 1), (76, .aload_n 0, 1), (77, .getfield 7, 3), (80, .invokevirtual 382, 3), (83, .iconst (-1), 1), (84, .istore_n 2, 1), (85, .iconst 0, 1), (86, .istore_n 3, 1), (87, .iload_n 3, 1), (88, .iconst 1, 1), (89, .aload_n 0, 1), (90, .getfield 220, 3), (93, .ishl, 1), (94, .if_icmp .ge 101, 3), (97, .iload_n 2, 1), (98, .ifCond .lt 19, 3), (101, .aload_n 0, 1), (102, .iload_n 3, 1), (103, .invokevirtual 436, 3), (106, .aload_n 0, 1), (107, .iload_n 2, 1), (108, .invokevirtual 436, 3), (111, .if_icmp .lt 6, 3), (114, .goto 75, 3), (117, .iconst 0, 1), (118, .istore 4, 2), (120, .iload 4, 2), (122, .aload_n 0, 1), (123, .getfield 220, 3), (126, .if_icmp .ge 48, 3), (129, .aload_n 0, 1), (130, .getfield 124, 3), (133, .aload_n 0, 1), (134, .getfield 223, 3), (137, .iload 4, 2), (139, .iaload, 1), (140, .iload_n 3, 1), (141, .iload 4, 2), (143, .ishr, 1), (144, .iconst 1, 1), (145, .iand, 1), (146, .iconst 1, 1), (147, .if_icmp .ne 13, 3), (150, .aload_n 0, 1), (151, .getfield 226, 3), (154, .iload 4, 2), (156, .iaload, 1), (157, .goto 10, 3), (160, .aload_n 0, 1), (161, .getfield 229, 3), (164, .iload 4, 2), (166, .iaload, 1), (167, .iastore, 1), (168, .iinc 4 1, 3), (171, .goto (-51), 3), (174, .aload_n 0, 1), (175, .iconst (-1), 1), (176, .aload_n 0, 1), (177, .getfield 7, 3), (180, .invokevirtual 433, 3), (183, .iload_n 1, 1), (184, .if_icmp .lt 5, 3), (187, .iload_n 3, 1), (188, .istore_n 2, 1), (189, .iinc 3 1, 3), (192, .goto (-105), 3), (195, .iconst 0, 1), (196, .istore_n 3, 1), (197, .iload_n 3, 1), (198, .aload_n 0, 1), (199, .getfield 220, 3), (202, .if_icmp .ge 26, 3), (205, .aload_n 0, 1), (206, .getfield 124, 3), (209, .aload_n 0, 1), (210, .getfield 223, 3), (213, .iload_n 3, 1), (214, .iaload, 1), (215, .aload_n 0, 1), (216, .getfield 229, 3), (219, .iload_n 3, 1), (220, .iaload, 1), (221, .iastore, 1), (222, .iinc 3 1, 3), (225, .goto (-28), 3), (228, .iload_n 2, 1), (229, .ifCond .ge 8, 3), (232, .bipush (-3), 2), (234, .goto 4, 3), (237, .iload_n 2, 1), (238, .ireturn, 1)]
theorem k_Mo_change : sv_tk m_Mo_change.2.1 t_Mo_change := by decide +kernel
theorem g_Mo_change : sv_G m_Mo_change 1 := ⟨by decide +kernel, sv_in 1866 (by decide +kernel) rfl, sv_in 103 (by decide +kernel) rfl, ⟨by decide, by decide⟩, by decide +kernel, by decide⟩
theorem in_Mo_change : Cond.instanceMethod m_Mo_change.1 ∈ sv_T := sv_in 1864 (by decide +kernel) rfl
theorem se_Mo_change : Cond.selects m_Mo_change.1.cls m_Mo_change.1 m_Mo_change.1 ∈ sv_T := sv_in 1865 (by decide +kernel) rfl
def F_Mo_change_b197 : Nat → Int32 → Int32 → sv_S → Option (Int32 × sv_S)
  | 0 => fun _ _ _ => none
  | n + 1 => fun x2 x3 s =>
    if (s.1 187 69) ≤ x3 then
      if 0 ≤ x2 then
        some (x2, s)
      else
      some ((-3 : Int32), s)
    else
    if sv_ib x3 10 = true then
      if sv_ib x3 10 = true then
        if sv_ib (s.1 235 x3.toNatClampNeg) 60 = true then
          ss_let (ss_setI s 209 (s.1 235 x3.toNatClampNeg).toNatClampNeg (s.1 237 x3.toNatClampNeg)) fun s2 =>
          ss_let (x3 + (1 : Int32)) fun v3 =>
          F_Mo_change_b197  n x2 v3 s2
        else none
      else none
    else none
theorem V_Mo_change_b197 (E : sv_E) (d : Nat) : ∀ (n : Nat) (x2 : Int32) (x3 : Int32) (s : sv_S), sv_V E m_Mo_change (d + 9) ss_i 197 [(0, sv_r E 187), (2, .int x2), (3, .int x3)] [] (ss_e s) (F_Mo_change_b197 n x2 x3 s) := by
  intro n
  induction n with
  | zero => intro x2 x3 s; exact sv_none
  | succ n ih =>
    intro x2 x3 s
    unfold F_Mo_change_b197
    refine sv_iload_n (pc := 197) 2 (sv_d k_Mo_change 110 rfl) rfl rfl ?_
    refine sv_aload_n (pc := 198) 0 (sv_d k_Mo_change 111 rfl) rfl rfl ?_
    refine sv_getf (pc := 199) 69 (sv_d k_Mo_change 112 rfl) cf12 (by decide) w1371 kd187 (ss_lt (by decide)) rfl ?_
    refine sv_icmp_ge (pc := 202) (tgt := 228) (sv_d k_Mo_change 113 rfl) (by decide) ?_ ?_
    · refine sv_iload_n (pc := 228) 1 (sv_d k_Mo_change 127 rfl) rfl rfl ?_
      refine sv_if_ge (pc := 229) (tgt := 237) (sv_d k_Mo_change 128 rfl) (by decide) ?_ ?_
      · refine sv_iload_n (pc := 237) 1 (sv_d k_Mo_change 131 rfl) rfl rfl ?_
        exact sv_ret (pc := 238) (sv_d k_Mo_change 132 rfl) ⟨_, rfl, rfl⟩ rfl
      · refine sv_bipush (pc := 232) (v := (-3 : Int32)) (sv_d k_Mo_change 129 rfl) (by decide) ?_
        refine sv_goto (pc := 234) (tgt := 238) (sv_d k_Mo_change 130 rfl) (by decide) ?_
        exact sv_ret (pc := 238) (sv_d k_Mo_change 132 rfl) ⟨_, rfl, rfl⟩ rfl
    · refine sv_aload_n (pc := 205) 0 (sv_d k_Mo_change 114 rfl) rfl rfl ?_
      refine sv_getf (pc := 206) 37 (sv_d k_Mo_change 115 rfl) cf12 (by decide) w1339 kd187 (ss_lt (by decide)) (lr_187_37 E _) ?_
      refine sv_aload_n (pc := 209) 0 (sv_d k_Mo_change 116 rfl) rfl rfl ?_
      refine sv_getf (pc := 210) 70 (sv_d k_Mo_change 117 rfl) cf12 (by decide) w1372 kd187 (ss_lt (by decide)) (lr_187_70 E _) ?_
      refine sv_iload_n (pc := 213) 2 (sv_d k_Mo_change 118 rfl) rfl rfl ?_
      refine ss_iald (pc := 214) (n := 10) (sv_d k_Mo_change 119 rfl) kd235 (ss_lt (by decide)) rfl ?_
      refine sv_aload_n (pc := 215) 0 (sv_d k_Mo_change 120 rfl) rfl rfl ?_
      refine sv_getf (pc := 216) 72 (sv_d k_Mo_change 121 rfl) cf12 (by decide) w1374 kd187 (ss_lt (by decide)) (lr_187_72 E _) ?_
      refine sv_iload_n (pc := 219) 2 (sv_d k_Mo_change 122 rfl) rfl rfl ?_
      refine ss_iald (pc := 220) (n := 10) (sv_d k_Mo_change 123 rfl) kd237 (ss_lt (by decide)) rfl ?_
      refine ss_iast (pc := 221) (n := 60) (sv_d k_Mo_change 124 rfl) kd209 (by decide) (ss_lt (by decide)) rfl (ss_lets (fun s2 e_s2 => ?_))
      refine ss_letr (fun v3 e_v3 => ?_)
      refine sv_iinc (pc := 222) (v := v3) (lv' := [(3, .int v3), (0, sv_r E 187), (2, .int x2)]) (sv_d k_Mo_change 125 rfl) (n := 2) rfl (by rw [e_v3]; rfl) (by decide) rfl ?_
      refine sv_goto (pc := 225) (tgt := 197) (sv_d k_Mo_change 126 rfl) (by decide) ?_
      exact sv_loc [1, 2, 0] rfl (ih x2 v3 s2)
def F_Mo_change_b189 (kc87 : Int32 → Int32 → Int32 → sv_S → Option (Int32 × sv_S)) (x1 : Int32) (x2 : Int32) (x3 : Int32) (s : sv_S) : Option (Int32 × sv_S) :=
  ss_let (x3 + (1 : Int32)) fun v5 =>
  kc87 x1 x2 v5 s
theorem V_Mo_change_b189 (E : sv_E) (d : Nat) (kc87 : Int32 → Int32 → Int32 → sv_S → Option (Int32 × sv_S)) (hc87 : ∀ (x1 : Int32) (x2 : Int32) (x3 : Int32) (s : sv_S), sv_V E m_Mo_change (d + 9) ss_i 87 [(0, sv_r E 187), (1, .int x1), (2, .int x2), (3, .int x3)] [] (ss_e s) (kc87 x1 x2 x3 s)) (x1 : Int32) (x2 : Int32) (x3 : Int32) (s : sv_S) : sv_V E m_Mo_change (d + 9) ss_i 189 [(0, sv_r E 187), (1, .int x1), (2, .int x2), (3, .int x3)] [] (ss_e s) (F_Mo_change_b189 kc87 x1 x2 x3 s) := by
  unfold F_Mo_change_b189
  refine ss_letr (fun v5 e_v5 => ?_)
  refine sv_iinc (pc := 189) (v := v5) (lv' := [(3, .int v5), (0, sv_r E 187), (1, .int x1), (2, .int x2)]) (sv_d k_Mo_change 106 rfl) (n := 3) rfl (by rw [e_v5]; rfl) (by decide) rfl ?_
  refine sv_goto (pc := 192) (tgt := 87) (sv_d k_Mo_change 107 rfl) (by decide) ?_
  exact sv_loc [1, 2, 3, 0] rfl (hc87 x1 x2 v5 s)
def F_Mo_change_b167 (kc87 : Int32 → Int32 → Int32 → sv_S → Option (Int32 × sv_S)) (kc120 : Int32 → Int32 → Int32 → Int32 → sv_S → Option (Int32 × sv_S)) (x1 : Int32) (x2 : Int32) (x3 : Int32) (x4 : Int32) (t1 : Int32) (t2 : Int32) (s : sv_S) : Option (Int32 × sv_S) :=
  if sv_ib t1 60 = true then
    ss_let (ss_setI s 209 t1.toNatClampNeg t2) fun s6 =>
    ss_let (x4 + (1 : Int32)) fun v7 =>
    kc120 x1 x2 x3 v7 s6
  else none
theorem V_Mo_change_b167 (E : sv_E) (d : Nat) (kc87 : Int32 → Int32 → Int32 → sv_S → Option (Int32 × sv_S)) (kc120 : Int32 → Int32 → Int32 → Int32 → sv_S → Option (Int32 × sv_S)) (hc87 : ∀ (x1 : Int32) (x2 : Int32) (x3 : Int32) (s : sv_S), sv_V E m_Mo_change (d + 9) ss_i 87 [(0, sv_r E 187), (1, .int x1), (2, .int x2), (3, .int x3)] [] (ss_e s) (kc87 x1 x2 x3 s)) (hc120 : ∀ (x1 : Int32) (x2 : Int32) (x3 : Int32) (x4 : Int32) (s : sv_S), sv_V E m_Mo_change (d + 9) ss_i 120 [(0, sv_r E 187), (1, .int x1), (2, .int x2), (3, .int x3), (4, .int x4)] [] (ss_e s) (kc120 x1 x2 x3 x4 s)) (x1 : Int32) (x2 : Int32) (x3 : Int32) (x4 : Int32) (t1 : Int32) (t2 : Int32) (s : sv_S) : sv_V E m_Mo_change (d + 9) ss_i 167 [(0, sv_r E 187), (1, .int x1), (2, .int x2), (3, .int x3), (4, .int x4)] [.int t2, .int t1, sv_r E 209] (ss_e s) (F_Mo_change_b167 kc87 kc120 x1 x2 x3 x4 t1 t2 s) := by
  unfold F_Mo_change_b167
  refine ss_iast (pc := 167) (n := 60) (sv_d k_Mo_change 94 rfl) kd209 (by decide) (ss_lt (by decide)) rfl (ss_lets (fun s6 e_s6 => ?_))
  refine ss_letr (fun v7 e_v7 => ?_)
  refine sv_iinc (pc := 168) (v := v7) (lv' := [(4, .int v7), (0, sv_r E 187), (1, .int x1), (2, .int x2), (3, .int x3)]) (sv_d k_Mo_change 95 rfl) (n := 4) rfl (by rw [e_v7]; rfl) (by decide) rfl ?_
  refine sv_goto (pc := 171) (tgt := 120) (sv_d k_Mo_change 96 rfl) (by decide) ?_
  exact sv_loc [1, 2, 3, 4, 0] rfl (hc120 x1 x2 x3 v7 s6)
def F_Mo_change_b120 (kc87 : Int32 → Int32 → Int32 → sv_S → Option (Int32 × sv_S)) : Nat → Int32 → Int32 → Int32 → Int32 → sv_S → Option (Int32 × sv_S)
  | 0 => fun _ _ _ _ _ => none
  | n + 1 => fun x1 x2 x3 x4 s =>
    if (s.1 187 69) ≤ x4 then
      (F_Mo_takingsOf (-1 : Int32) (s.1 187 0) s).bind fun r4 =>
      if r4.1 < x1 then
        F_Mo_change_b189 kc87 x1 x2 x3 r4.2
      else
      F_Mo_change_b189 kc87 x1 x3 x3 r4.2
    else
    if sv_ib x4 10 = true then
      if ((x3 >>> (x4 &&& 31)) &&& (1 : Int32)) = (1 : Int32) then
        if sv_ib x4 10 = true then
          F_Mo_change_b167 kc87 (F_Mo_change_b120 kc87 n) x1 x2 x3 x4 (s.1 235 x4.toNatClampNeg) (s.1 236 x4.toNatClampNeg) s
        else none
      else
      if sv_ib x4 10 = true then
        F_Mo_change_b167 kc87 (F_Mo_change_b120 kc87 n) x1 x2 x3 x4 (s.1 235 x4.toNatClampNeg) (s.1 237 x4.toNatClampNeg) s
      else none
    else none
theorem V_Mo_change_b120 (E : sv_E) (d : Nat) (kc87 : Int32 → Int32 → Int32 → sv_S → Option (Int32 × sv_S)) (hc87 : ∀ (x1 : Int32) (x2 : Int32) (x3 : Int32) (s : sv_S), sv_V E m_Mo_change (d + 9) ss_i 87 [(0, sv_r E 187), (1, .int x1), (2, .int x2), (3, .int x3)] [] (ss_e s) (kc87 x1 x2 x3 s)) : ∀ (n : Nat) (x1 : Int32) (x2 : Int32) (x3 : Int32) (x4 : Int32) (s : sv_S), sv_V E m_Mo_change (d + 9) ss_i 120 [(0, sv_r E 187), (1, .int x1), (2, .int x2), (3, .int x3), (4, .int x4)] [] (ss_e s) (F_Mo_change_b120 kc87 n x1 x2 x3 x4 s) := by
  intro n
  induction n with
  | zero => intro x1 x2 x3 x4 s; exact sv_none
  | succ n ih =>
    intro x1 x2 x3 x4 s
    unfold F_Mo_change_b120
    refine sv_iload (pc := 120) 4 (sv_d k_Mo_change 68 rfl) rfl ?_
    refine sv_aload_n (pc := 122) 0 (sv_d k_Mo_change 69 rfl) rfl rfl ?_
    refine sv_getf (pc := 123) 69 (sv_d k_Mo_change 70 rfl) cf12 (by decide) w1371 kd187 (ss_lt (by decide)) rfl ?_
    refine sv_icmp_ge (pc := 126) (tgt := 174) (sv_d k_Mo_change 71 rfl) (by decide) ?_ ?_
    · refine sv_aload_n (pc := 174) 0 (sv_d k_Mo_change 97 rfl) rfl rfl ?_
      refine sv_iconst (pc := 175) (v := (-1 : Int32)) (sv_d k_Mo_change 98 rfl) (by decide) ?_
      refine sv_aload_n (pc := 176) 0 (sv_d k_Mo_change 99 rfl) rfl rfl ?_
      refine sv_getf (pc := 177) 0 (sv_d k_Mo_change 100 rfl) cf12 (by decide) w1302 kd187 (ss_lt (by decide)) rfl ?_
      refine sv_callV (pc := 180) (ψ := ss_i) (As := [.int (-1 : Int32), .int (s.1 187 0)]) (rest := []) (c := 187) (sv_d k_Mo_change 101 rfl) g_Mo_takingsOf w1847 in_Mo_takingsOf se_Mo_takingsOf cf12 kd187 (ss_lt (by decide)) rfl (Nat.le_of_ble_eq_true rfl) (V_Mo_takingsOf E (d + 5) (-1 : Int32) (s.1 187 0) s) (Nat.le_of_ble_eq_true rfl) rfl (fun r4 => ?_)
      show sv_V E _ _ _ 183 _ [.int r4.1] (ss_e r4.2) _
      refine sv_iload_n (pc := 183) 1 (sv_d k_Mo_change 102 rfl) rfl rfl ?_
      refine sv_icmp_lt (pc := 184) (tgt := 189) (sv_d k_Mo_change 103 rfl) (by decide) ?_ ?_
      · exact sv_loc [0, 1, 2, 3] rfl (V_Mo_change_b189 E d kc87 hc87 x1 x2 x3 r4.2)
      · refine sv_iload_n (pc := 187) 3 (sv_d k_Mo_change 104 rfl) rfl rfl ?_
        refine sv_istore_n (pc := 188) (lv' := [(2, .int x3), (0, sv_r E 187), (1, .int x1), (3, .int x3), (4, .int x4)]) (sv_d k_Mo_change 105 rfl) rfl (by decide) rfl ?_
        exact sv_loc [1, 2, 0, 3] rfl (V_Mo_change_b189 E d kc87 hc87 x1 x3 x3 r4.2)
    · refine sv_aload_n (pc := 129) 0 (sv_d k_Mo_change 72 rfl) rfl rfl ?_
      refine sv_getf (pc := 130) 37 (sv_d k_Mo_change 73 rfl) cf12 (by decide) w1339 kd187 (ss_lt (by decide)) (lr_187_37 E _) ?_
      refine sv_aload_n (pc := 133) 0 (sv_d k_Mo_change 74 rfl) rfl rfl ?_
      refine sv_getf (pc := 134) 70 (sv_d k_Mo_change 75 rfl) cf12 (by decide) w1372 kd187 (ss_lt (by decide)) (lr_187_70 E _) ?_
      refine sv_iload (pc := 137) 4 (sv_d k_Mo_change 76 rfl) rfl ?_
      refine ss_iald (pc := 139) (n := 10) (sv_d k_Mo_change 77 rfl) kd235 (ss_lt (by decide)) rfl ?_
      refine sv_iload_n (pc := 140) 3 (sv_d k_Mo_change 78 rfl) rfl rfl ?_
      refine sv_iload (pc := 141) 4 (sv_d k_Mo_change 79 rfl) rfl ?_
      refine sv_ishr (pc := 143) (sv_d k_Mo_change 80 rfl) ?_
      refine sv_iconst (pc := 144) (v := (1 : Int32)) (sv_d k_Mo_change 81 rfl) (by decide) ?_
      refine sv_iand (pc := 145) (sv_d k_Mo_change 82 rfl) ?_
      refine sv_iconst (pc := 146) (v := (1 : Int32)) (sv_d k_Mo_change 83 rfl) (by decide) ?_
      refine sv_icmp_ne (pc := 147) (tgt := 160) (sv_d k_Mo_change 84 rfl) (by decide) ?_ ?_
      · refine sv_aload_n (pc := 160) 0 (sv_d k_Mo_change 90 rfl) rfl rfl ?_
        refine sv_getf (pc := 161) 72 (sv_d k_Mo_change 91 rfl) cf12 (by decide) w1374 kd187 (ss_lt (by decide)) (lr_187_72 E _) ?_
        refine sv_iload (pc := 164) 4 (sv_d k_Mo_change 92 rfl) rfl ?_
        refine ss_iald (pc := 166) (n := 10) (sv_d k_Mo_change 93 rfl) kd237 (ss_lt (by decide)) rfl ?_
        exact sv_loc [0, 1, 2, 3, 4] rfl (V_Mo_change_b167 E d kc87 (F_Mo_change_b120 kc87 n) hc87 ih x1 x2 x3 x4 (s.1 235 x4.toNatClampNeg) (s.1 237 x4.toNatClampNeg) s)
      · refine sv_aload_n (pc := 150) 0 (sv_d k_Mo_change 85 rfl) rfl rfl ?_
        refine sv_getf (pc := 151) 71 (sv_d k_Mo_change 86 rfl) cf12 (by decide) w1373 kd187 (ss_lt (by decide)) (lr_187_71 E _) ?_
        refine sv_iload (pc := 154) 4 (sv_d k_Mo_change 87 rfl) rfl ?_
        refine ss_iald (pc := 156) (n := 10) (sv_d k_Mo_change 88 rfl) kd236 (ss_lt (by decide)) rfl ?_
        refine sv_goto (pc := 157) (tgt := 167) (sv_d k_Mo_change 89 rfl) (by decide) ?_
        exact sv_loc [0, 1, 2, 3, 4] rfl (V_Mo_change_b167 E d kc87 (F_Mo_change_b120 kc87 n) hc87 ih x1 x2 x3 x4 (s.1 235 x4.toNatClampNeg) (s.1 236 x4.toNatClampNeg) s)
def F_Mo_change_b117 (kc87 : Int32 → Int32 → Int32 → sv_S → Option (Int32 × sv_S)) (x1 : Int32) (x2 : Int32) (x3 : Int32) (s : sv_S) : Option (Int32 × sv_S) :=
  F_Mo_change_b120 kc87 ss_F x1 x2 x3 (0 : Int32) s
theorem V_Mo_change_b117 (E : sv_E) (d : Nat) (kc87 : Int32 → Int32 → Int32 → sv_S → Option (Int32 × sv_S)) (hc87 : ∀ (x1 : Int32) (x2 : Int32) (x3 : Int32) (s : sv_S), sv_V E m_Mo_change (d + 9) ss_i 87 [(0, sv_r E 187), (1, .int x1), (2, .int x2), (3, .int x3)] [] (ss_e s) (kc87 x1 x2 x3 s)) (x1 : Int32) (x2 : Int32) (x3 : Int32) (s : sv_S) : sv_V E m_Mo_change (d + 9) ss_i 117 [(0, sv_r E 187), (1, .int x1), (2, .int x2), (3, .int x3)] [] (ss_e s) (F_Mo_change_b117 kc87 x1 x2 x3 s) := by
  unfold F_Mo_change_b117
  refine sv_iconst (pc := 117) (v := (0 : Int32)) (sv_d k_Mo_change 66 rfl) (by decide) ?_
  refine sv_istore (pc := 118) (lv' := [(4, .int (0 : Int32)), (0, sv_r E 187), (1, .int x1), (2, .int x2), (3, .int x3)]) (sv_d k_Mo_change 67 rfl) (by decide) rfl ?_
  exact sv_loc [1, 2, 3, 4, 0] rfl (V_Mo_change_b120 E d kc87 hc87 ss_F x1 x2 x3 (0 : Int32) s)
def F_Mo_change_b87 : Nat → Int32 → Int32 → Int32 → sv_S → Option (Int32 × sv_S)
  | 0 => fun _ _ _ _ => none
  | n + 1 => fun x1 x2 x3 s =>
    if ((1 : Int32) <<< ((s.1 187 69) &&& 31)) ≤ x3 then
      F_Mo_change_b197 ss_F x2 (0 : Int32) s
    else
    if x2 < 0 then
      F_Mo_change_b117 (F_Mo_change_b87  n) x1 x2 x3 s
    else
    (F_Mo_ones x3 s).bind fun r8 =>
    (F_Mo_ones x2 s).bind fun r9 =>
    if r8 < r9 then
      F_Mo_change_b117 (F_Mo_change_b87  n) x1 x2 x3 s
    else
    F_Mo_change_b189 (F_Mo_change_b87  n) x1 x2 x3 s
theorem V_Mo_change_b87 (E : sv_E) (d : Nat) : ∀ (n : Nat) (x1 : Int32) (x2 : Int32) (x3 : Int32) (s : sv_S), sv_V E m_Mo_change (d + 9) ss_i 87 [(0, sv_r E 187), (1, .int x1), (2, .int x2), (3, .int x3)] [] (ss_e s) (F_Mo_change_b87 n x1 x2 x3 s) := by
  intro n
  induction n with
  | zero => intro x1 x2 x3 s; exact sv_none
  | succ n ih =>
    intro x1 x2 x3 s
    unfold F_Mo_change_b87
    refine sv_iload_n (pc := 87) 3 (sv_d k_Mo_change 50 rfl) rfl rfl ?_
    refine sv_iconst (pc := 88) (v := (1 : Int32)) (sv_d k_Mo_change 51 rfl) (by decide) ?_
    refine sv_aload_n (pc := 89) 0 (sv_d k_Mo_change 52 rfl) rfl rfl ?_
    refine sv_getf (pc := 90) 69 (sv_d k_Mo_change 53 rfl) cf12 (by decide) w1371 kd187 (ss_lt (by decide)) rfl ?_
    refine sv_ishl (pc := 93) (sv_d k_Mo_change 54 rfl) ?_
    refine sv_icmp_ge (pc := 94) (tgt := 195) (sv_d k_Mo_change 55 rfl) (by decide) ?_ ?_
    · refine sv_iconst (pc := 195) (v := (0 : Int32)) (sv_d k_Mo_change 108 rfl) (by decide) ?_
      refine sv_istore_n (pc := 196) (lv' := [(3, .int (0 : Int32)), (0, sv_r E 187), (1, .int x1), (2, .int x2)]) (sv_d k_Mo_change 109 rfl) rfl (by decide) rfl ?_
      exact sv_loc [1, 3, 0] rfl (V_Mo_change_b197 E d ss_F x2 (0 : Int32) s)
    · refine sv_iload_n (pc := 97) 2 (sv_d k_Mo_change 56 rfl) rfl rfl ?_
      refine sv_if_lt (pc := 98) (tgt := 117) (sv_d k_Mo_change 57 rfl) (by decide) ?_ ?_
      · exact sv_loc [0, 1, 2, 3] rfl (V_Mo_change_b117 E d (F_Mo_change_b87  n) ih x1 x2 x3 s)
      · refine sv_aload_n (pc := 101) 0 (sv_d k_Mo_change 58 rfl) rfl rfl ?_
        refine sv_iload_n (pc := 102) 3 (sv_d k_Mo_change 59 rfl) rfl rfl ?_
        refine sv_callV (pc := 103) (ψ := (ss_pi s)) (As := [.int x3]) (rest := []) (c := 187) (sv_d k_Mo_change 60 rfl) g_Mo_ones w1867 in_Mo_ones se_Mo_ones cf12 kd187 (ss_lt (by decide)) rfl (Nat.le_of_ble_eq_true rfl) (V_Mo_ones E (d + 8) x3 s) (Nat.le_of_ble_eq_true rfl) rfl (fun r8 => ?_)
        show sv_V E _ _ _ 106 _ [.int r8] (ss_e s) _
        refine sv_aload_n (pc := 106) 0 (sv_d k_Mo_change 61 rfl) rfl rfl ?_
        refine sv_iload_n (pc := 107) 2 (sv_d k_Mo_change 62 rfl) rfl rfl ?_
        refine sv_callV (pc := 108) (ψ := (ss_pi s)) (As := [.int x2]) (rest := [.int r8]) (c := 187) (sv_d k_Mo_change 63 rfl) g_Mo_ones w1867 in_Mo_ones se_Mo_ones cf12 kd187 (ss_lt (by decide)) rfl (Nat.le_of_ble_eq_true rfl) (V_Mo_ones E (d + 8) x2 s) (Nat.le_of_ble_eq_true rfl) rfl (fun r9 => ?_)
        show sv_V E _ _ _ 111 _ [.int r9, .int r8] (ss_e s) _
        refine sv_icmp_lt (pc := 111) (tgt := 117) (sv_d k_Mo_change 64 rfl) (by decide) ?_ ?_
        · exact sv_loc [0, 1, 2, 3] rfl (V_Mo_change_b117 E d (F_Mo_change_b87  n) ih x1 x2 x3 s)
        · refine sv_goto (pc := 114) (tgt := 189) (sv_d k_Mo_change 65 rfl) (by decide) ?_
          exact sv_loc [0, 1, 2, 3] rfl (V_Mo_change_b189 E d (F_Mo_change_b87  n) ih x1 x2 x3 s)
def F_Mo_change_b51 (kc9 : Int32 → Int32 → sv_S → Option (Int32 × sv_S)) (x1 : Int32) (x2 : Int32) (t1 : Int32) (t2 : Int32) (s : sv_S) : Option (Int32 × sv_S) :=
  if sv_ib t1 10 = true then
    ss_let (ss_setI s 236 t1.toNatClampNeg t2) fun s11 =>
    if sv_ib x2 10 = true then
      if sv_ib (s11.1 235 x2.toNatClampNeg) 60 = true then
        if sv_ib x2 10 = true then
          ss_let (ss_setI s11 237 x2.toNatClampNeg (s11.1 209 (s11.1 235 x2.toNatClampNeg).toNatClampNeg)) fun s12 =>
          ss_let (x2 + (1 : Int32)) fun v13 =>
          kc9 x1 v13 s12
        else none
      else none
    else none
  else none
theorem V_Mo_change_b51 (E : sv_E) (d : Nat) (kc9 : Int32 → Int32 → sv_S → Option (Int32 × sv_S)) (hc9 : ∀ (x1 : Int32) (x2 : Int32) (s : sv_S), sv_V E m_Mo_change (d + 9) ss_i 9 [(0, sv_r E 187), (1, .int x1), (2, .int x2)] [] (ss_e s) (kc9 x1 x2 s)) (x1 : Int32) (x2 : Int32) (t1 : Int32) (t2 : Int32) (s : sv_S) : sv_V E m_Mo_change (d + 9) ss_i 51 [(0, sv_r E 187), (1, .int x1), (2, .int x2)] [.int t2, .int t1, sv_r E 236] (ss_e s) (F_Mo_change_b51 kc9 x1 x2 t1 t2 s) := by
  unfold F_Mo_change_b51
  refine ss_iast (pc := 51) (n := 10) (sv_d k_Mo_change 28 rfl) kd236 (by decide) (ss_lt (by decide)) rfl (ss_lets (fun s11 e_s11 => ?_))
  refine sv_aload_n (pc := 52) 0 (sv_d k_Mo_change 29 rfl) rfl rfl ?_
  refine sv_getf (pc := 53) 72 (sv_d k_Mo_change 30 rfl) cf12 (by decide) w1374 kd187 (ss_lt (by decide)) (lr_187_72 E _) ?_
  refine sv_iload_n (pc := 56) 2 (sv_d k_Mo_change 31 rfl) rfl rfl ?_
  refine sv_aload_n (pc := 57) 0 (sv_d k_Mo_change 32 rfl) rfl rfl ?_
  refine sv_getf (pc := 58) 37 (sv_d k_Mo_change 33 rfl) cf12 (by decide) w1339 kd187 (ss_lt (by decide)) (lr_187_37 E _) ?_
  refine sv_aload_n (pc := 61) 0 (sv_d k_Mo_change 34 rfl) rfl rfl ?_
  refine sv_getf (pc := 62) 70 (sv_d k_Mo_change 35 rfl) cf12 (by decide) w1372 kd187 (ss_lt (by decide)) (lr_187_70 E _) ?_
  refine sv_iload_n (pc := 65) 2 (sv_d k_Mo_change 36 rfl) rfl rfl ?_
  refine ss_iald (pc := 66) (n := 10) (sv_d k_Mo_change 37 rfl) kd235 (ss_lt (by decide)) rfl ?_
  refine ss_iald (pc := 67) (n := 60) (sv_d k_Mo_change 38 rfl) kd209 (ss_lt (by decide)) rfl ?_
  refine ss_iast (pc := 68) (n := 10) (sv_d k_Mo_change 39 rfl) kd237 (by decide) (ss_lt (by decide)) rfl (ss_lets (fun s12 e_s12 => ?_))
  refine ss_letr (fun v13 e_v13 => ?_)
  refine sv_iinc (pc := 69) (v := v13) (lv' := [(2, .int v13), (0, sv_r E 187), (1, .int x1)]) (sv_d k_Mo_change 40 rfl) (n := 2) rfl (by rw [e_v13]; rfl) (by decide) rfl ?_
  refine sv_goto (pc := 72) (tgt := 9) (sv_d k_Mo_change 41 rfl) (by decide) ?_
  exact sv_loc [1, 2, 0] rfl (hc9 x1 v13 s12)
def F_Mo_change_b9 : Nat → Int32 → Int32 → sv_S → Option (Int32 × sv_S)
  | 0 => fun _ _ _ => none
  | n + 1 => fun x1 x2 s =>
    if (s.1 187 69) ≤ x2 then
      (F_Mo_prepare (s.1 187 0) s).bind fun r1 =>
      F_Mo_change_b87 ss_F x1 (-1 : Int32) (0 : Int32) r1
    else
    if sv_ib x2 10 = true then
      (F_Mo_mostOf (s.1 235 x2.toNatClampNeg) (s.1 187 0) s).bind fun r10 =>
      if r10.1 ≤ (9999 : Int32) then
        F_Mo_change_b51 (F_Mo_change_b9  n) x1 x2 x2 r10.1 r10.2
      else
      F_Mo_change_b51 (F_Mo_change_b9  n) x1 x2 x2 (9999 : Int32) r10.2
    else none
theorem V_Mo_change_b9 (E : sv_E) (d : Nat) : ∀ (n : Nat) (x1 : Int32) (x2 : Int32) (s : sv_S), sv_V E m_Mo_change (d + 9) ss_i 9 [(0, sv_r E 187), (1, .int x1), (2, .int x2)] [] (ss_e s) (F_Mo_change_b9 n x1 x2 s) := by
  intro n
  induction n with
  | zero => intro x1 x2 s; exact sv_none
  | succ n ih =>
    intro x1 x2 s
    unfold F_Mo_change_b9
    refine sv_iload_n (pc := 9) 2 (sv_d k_Mo_change 6 rfl) rfl rfl ?_
    refine sv_aload_n (pc := 10) 0 (sv_d k_Mo_change 7 rfl) rfl rfl ?_
    refine sv_getf (pc := 11) 69 (sv_d k_Mo_change 8 rfl) cf12 (by decide) w1371 kd187 (ss_lt (by decide)) rfl ?_
    refine sv_icmp_ge (pc := 14) (tgt := 75) (sv_d k_Mo_change 9 rfl) (by decide) ?_ ?_
    · refine sv_aload_n (pc := 75) 0 (sv_d k_Mo_change 42 rfl) rfl rfl ?_
      refine sv_aload_n (pc := 76) 0 (sv_d k_Mo_change 43 rfl) rfl rfl ?_
      refine sv_getf (pc := 77) 0 (sv_d k_Mo_change 44 rfl) cf12 (by decide) w1302 kd187 (ss_lt (by decide)) rfl ?_
      refine sv_callV (pc := 80) (ψ := ss_v) (As := [.int (s.1 187 0)]) (rest := []) (c := 187) (sv_d k_Mo_change 45 rfl) g_Mo_prepare w1734 in_Mo_prepare se_Mo_prepare cf12 kd187 (ss_lt (by decide)) rfl (Nat.le_of_ble_eq_true rfl) (V_Mo_prepare E (d + 0) (s.1 187 0) s) (Nat.le_of_ble_eq_true rfl) rfl (fun r1 => ?_)
      show sv_V E _ _ _ 83 _ [] (ss_e r1) _
      refine sv_iconst (pc := 83) (v := (-1 : Int32)) (sv_d k_Mo_change 46 rfl) (by decide) ?_
      refine sv_istore_n (pc := 84) (lv' := [(2, .int (-1 : Int32)), (0, sv_r E 187), (1, .int x1)]) (sv_d k_Mo_change 47 rfl) rfl (by decide) rfl ?_
      refine sv_iconst (pc := 85) (v := (0 : Int32)) (sv_d k_Mo_change 48 rfl) (by decide) ?_
      refine sv_istore_n (pc := 86) (lv' := [(3, .int (0 : Int32)), (2, .int (-1 : Int32)), (0, sv_r E 187), (1, .int x1)]) (sv_d k_Mo_change 49 rfl) rfl (by decide) rfl ?_
      exact sv_loc [2, 3, 1, 0] rfl (V_Mo_change_b87 E d ss_F x1 (-1 : Int32) (0 : Int32) r1)
    · refine sv_aload_n (pc := 17) 0 (sv_d k_Mo_change 10 rfl) rfl rfl ?_
      refine sv_aload_n (pc := 18) 0 (sv_d k_Mo_change 11 rfl) rfl rfl ?_
      refine sv_getf (pc := 19) 70 (sv_d k_Mo_change 12 rfl) cf12 (by decide) w1372 kd187 (ss_lt (by decide)) (lr_187_70 E _) ?_
      refine sv_iload_n (pc := 22) 2 (sv_d k_Mo_change 13 rfl) rfl rfl ?_
      refine ss_iald (pc := 23) (n := 10) (sv_d k_Mo_change 14 rfl) kd235 (ss_lt (by decide)) rfl ?_
      refine sv_aload_n (pc := 24) 0 (sv_d k_Mo_change 15 rfl) rfl rfl ?_
      refine sv_getf (pc := 25) 0 (sv_d k_Mo_change 16 rfl) cf12 (by decide) w1302 kd187 (ss_lt (by decide)) rfl ?_
      refine sv_callV (pc := 28) (ψ := ss_i) (As := [.int (s.1 235 x2.toNatClampNeg), .int (s.1 187 0)]) (rest := []) (c := 187) (sv_d k_Mo_change 17 rfl) g_Mo_mostOf w1746 in_Mo_mostOf se_Mo_mostOf cf12 kd187 (ss_lt (by decide)) rfl (Nat.le_of_ble_eq_true rfl) (V_Mo_mostOf E (d + 0) (s.1 235 x2.toNatClampNeg) (s.1 187 0) s) (Nat.le_of_ble_eq_true rfl) rfl (fun r10 => ?_)
      show sv_V E _ _ _ 31 _ [.int r10.1] (ss_e r10.2) _
      refine sv_istore_n (pc := 31) (lv' := [(3, .int r10.1), (0, sv_r E 187), (1, .int x1), (2, .int x2)]) (sv_d k_Mo_change 18 rfl) rfl (by decide) rfl ?_
      refine sv_aload_n (pc := 32) 1 (sv_d k_Mo_change 19 rfl) rfl rfl ?_
      refine sv_getf (pc := 33) 71 (sv_d k_Mo_change 20 rfl) cf12 (by decide) w1373 kd187 (ss_lt (by decide)) (lr_187_71 E _) ?_
      refine sv_iload_n (pc := 36) 3 (sv_d k_Mo_change 21 rfl) rfl rfl ?_
      refine sv_iload_n (pc := 37) 0 (sv_d k_Mo_change 22 rfl) rfl rfl ?_
      refine sv_sipush (pc := 38) (v := (9999 : Int32)) (sv_d k_Mo_change 23 rfl) (by decide) ?_
      refine sv_icmp_le (pc := 41) (tgt := 50) (sv_d k_Mo_change 24 rfl) (by decide) ?_ ?_
      · refine sv_iload_n (pc := 50) 0 (sv_d k_Mo_change 27 rfl) rfl rfl ?_
        exact sv_loc [1, 2, 3] rfl (V_Mo_change_b51 E d (F_Mo_change_b9  n) ih x1 x2 x2 r10.1 r10.2)
      · refine sv_sipush (pc := 44) (v := (9999 : Int32)) (sv_d k_Mo_change 25 rfl) (by decide) ?_
        refine sv_goto (pc := 47) (tgt := 51) (sv_d k_Mo_change 26 rfl) (by decide) ?_
        exact sv_loc [1, 2, 3] rfl (V_Mo_change_b51 E d (F_Mo_change_b9  n) ih x1 x2 x2 (9999 : Int32) r10.2)
def F_Mo_change (x1 : Int32) (s : sv_S) : Option (Int32 × sv_S) :=
  if 0 ≤ x1 then
    F_Mo_change_b9 ss_F x1 (0 : Int32) s
  else
  some ((-2 : Int32), s)
theorem V_Mo_change (E : sv_E) (d : Nat) (x1 : Int32) (s : sv_S) : sv_V E m_Mo_change (d + 9) ss_i 0 (lv_args 0 [sv_r E 187, .int x1]) [] (ss_e s) (F_Mo_change x1 s) := by
  show sv_V E m_Mo_change (d + 9) ss_i 0 [(0, sv_r E 187), (1, .int x1)] [] (ss_e s) _
  unfold F_Mo_change
  refine sv_iload_n (pc := 0) 1 (sv_d k_Mo_change 0 rfl) rfl rfl ?_
  refine sv_if_ge (pc := 1) (tgt := 7) (sv_d k_Mo_change 1 rfl) (by decide) ?_ ?_
  · refine sv_iconst (pc := 7) (v := (0 : Int32)) (sv_d k_Mo_change 4 rfl) (by decide) ?_
    refine sv_istore_n (pc := 8) (lv' := [(2, .int (0 : Int32)), (0, sv_r E 187), (1, .int x1)]) (sv_d k_Mo_change 5 rfl) rfl (by decide) rfl ?_
    exact sv_loc [1, 2, 0] rfl (V_Mo_change_b9 E d ss_F x1 (0 : Int32) s)
  · refine sv_bipush (pc := 4) (v := (-2 : Int32)) (sv_d k_Mo_change 2 rfl) (by decide) ?_
    exact sv_ret (pc := 6) (sv_d k_Mo_change 3 rfl) ⟨_, rfl, rfl⟩ rfl
/-! Mo_isFriend -/
abbrev m_Mo_isFriend : sv_M := (yX12_isFriend, cX12_isFriend, 9, (some .boolean))
def t_Mo_isFriend : List (Nat × Instr × Nat) := [(0, .aload_n 0, 1), (1, .getfield 169, 3), (4, .iload_n 1, 1), (5, .iaload, 1), (6, .istore 8, 2), (8, .aload_n 0, 1), (9, .getfield 115, 3), (12, .iload 8, 2), (14, .iaload, 1), (15, .iload_n 2, 1), (16, .if_icmp .ne 58, 3), (19, .aload_n 0, 1), (20, .getfield 172, 3), (23, .iload_n 1, 1), (24, .iaload, 1), (25, .iload_n 3, 1), (26, .if_icmp .ne 48, 3), (29, .aload_n 0, 1), (30, .getfield 118, 3), (33, .iload 8, 2), (35, .iaload, 1), (36, .iload 4, 2), (38, .if_icmp .ne 36, 3), (41, .aload_n 0, 1), (42, .getfield 121, 3), (45, .iload 8, 2), (47, .iaload, 1), (48, .iload 5, 2), (50, .if_icmp .ne 24, 3), (53, .aload_n 0, 1), (54, .aload_n 0, 1), (55, .getfield 181, 3), (58, .iload_n 1, 1), (59, .iaload, 1), (60, .iload 6, 2), (62, .iload 7, 2), (64, .invokevirtual 251, 3), (67, .ifCond .eq 7, 3), (70, .iconst 1, 1), (71, .goto 4, 3), (74, .iconst 0, 1), (75, .ireturn, 1)]
theorem k_Mo_isFriend : sv_tk m_Mo_isFriend.2.1 t_Mo_isFriend := by decide +kernel
theorem g_Mo_isFriend : sv_G m_Mo_isFriend 7 := ⟨by decide +kernel, sv_in 1878 (by decide +kernel) rfl, sv_in 103 (by decide +kernel) rfl, ⟨by decide, by decide⟩, by decide +kernel, by decide⟩
theorem in_Mo_isFriend : Cond.instanceMethod m_Mo_isFriend.1 ∈ sv_T := sv_in 1877 (by decide +kernel) rfl
theorem se_Mo_isFriend : Cond.selects m_Mo_isFriend.1.cls m_Mo_isFriend.1 m_Mo_isFriend.1 ∈ sv_T := sv_in 80 (by decide +kernel) rfl
def F_Mo_isFriend (x1 : Int32) (x2 : Int32) (x3 : Int32) (x4 : Int32) (x5 : Int32) (x6 : Int32) (x7 : Int32) (s : sv_S) : Option (Int32) :=
  if sv_ib x1 80 = true then
    ss_let (s.1 222 x1.toNatClampNeg) fun v1 =>
    if sv_ib v1 60 = true then
      if (s.1 206 v1.toNatClampNeg) = x2 then
        if sv_ib x1 80 = true then
          if (s.1 223 x1.toNatClampNeg) = x3 then
            if sv_ib v1 60 = true then
              if (s.1 207 v1.toNatClampNeg) = x4 then
                if sv_ib v1 60 = true then
                  if (s.1 208 v1.toNatClampNeg) = x5 then
                    if sv_ib x1 80 = true then
                      (F_Mo_in (s.1 226 x1.toNatClampNeg) x6 x7 s).bind fun r2 =>
                      if r2 = 0 then
                        some (0 : Int32)
                      else
                      some (1 : Int32)
                    else none
                  else
                  some (0 : Int32)
                else none
              else
              some (0 : Int32)
            else none
          else
          some (0 : Int32)
        else none
      else
      some (0 : Int32)
    else none
  else none
theorem V_Mo_isFriend (E : sv_E) (d : Nat) (x1 : Int32) (x2 : Int32) (x3 : Int32) (x4 : Int32) (x5 : Int32) (x6 : Int32) (x7 : Int32) (s : sv_S) : sv_V E m_Mo_isFriend (d + 1) (ss_pi s) 0 (lv_args 0 [sv_r E 187, .int x1, .int x2, .int x3, .int x4, .int x5, .int x6, .int x7]) [] (ss_e s) (F_Mo_isFriend x1 x2 x3 x4 x5 x6 x7 s) := by
  show sv_V E m_Mo_isFriend (d + 1) (ss_pi s) 0 [(0, sv_r E 187), (1, .int x1), (2, .int x2), (3, .int x3), (4, .int x4), (5, .int x5), (6, .int x6), (7, .int x7)] [] (ss_e s) _
  unfold F_Mo_isFriend
  refine sv_aload_n (pc := 0) 0 (sv_d k_Mo_isFriend 0 rfl) rfl rfl ?_
  refine sv_getf (pc := 1) 52 (sv_d k_Mo_isFriend 1 rfl) cf12 (by decide) w1354 kd187 (ss_lt (by decide)) (lr_187_52 E _) ?_
  refine sv_iload_n (pc := 4) 1 (sv_d k_Mo_isFriend 2 rfl) rfl rfl ?_
  refine ss_iald (pc := 5) (n := 80) (sv_d k_Mo_isFriend 3 rfl) kd222 (ss_lt (by decide)) rfl ?_
  refine ss_top (fun v1 e_v1 => ?_)
  refine sv_istore (pc := 6) (lv' := [(8, .int v1), (0, sv_r E 187), (1, .int x1), (2, .int x2), (3, .int x3), (4, .int x4), (5, .int x5), (6, .int x6), (7, .int x7)]) (sv_d k_Mo_isFriend 4 rfl) (by decide) rfl ?_
  refine sv_aload_n (pc := 8) 1 (sv_d k_Mo_isFriend 5 rfl) rfl rfl ?_
  refine sv_getf (pc := 9) 34 (sv_d k_Mo_isFriend 6 rfl) cf12 (by decide) w1336 kd187 (ss_lt (by decide)) (lr_187_34 E _) ?_
  refine sv_iload (pc := 12) 0 (sv_d k_Mo_isFriend 7 rfl) rfl ?_
  refine ss_iald (pc := 14) (n := 60) (sv_d k_Mo_isFriend 8 rfl) kd206 (ss_lt (by decide)) rfl ?_
  refine sv_iload_n (pc := 15) 3 (sv_d k_Mo_isFriend 9 rfl) rfl rfl ?_
  refine sv_icmp_ne (pc := 16) (tgt := 74) (sv_d k_Mo_isFriend 10 rfl) (by decide) ?_ ?_
  · refine sv_iconst (pc := 74) (v := (0 : Int32)) (sv_d k_Mo_isFriend 40 rfl) (by decide) ?_
    exact sv_ret (pc := 75) (sv_d k_Mo_isFriend 41 rfl) ⟨_, rfl, rfl⟩ rfl
  · refine sv_aload_n (pc := 19) 1 (sv_d k_Mo_isFriend 11 rfl) rfl rfl ?_
    refine sv_getf (pc := 20) 53 (sv_d k_Mo_isFriend 12 rfl) cf12 (by decide) w1355 kd187 (ss_lt (by decide)) (lr_187_53 E _) ?_
    refine sv_iload_n (pc := 23) 2 (sv_d k_Mo_isFriend 13 rfl) rfl rfl ?_
    refine ss_iald (pc := 24) (n := 80) (sv_d k_Mo_isFriend 14 rfl) kd223 (ss_lt (by decide)) rfl ?_
    refine sv_iload_n (pc := 25) 4 (sv_d k_Mo_isFriend 15 rfl) rfl rfl ?_
    refine sv_icmp_ne (pc := 26) (tgt := 74) (sv_d k_Mo_isFriend 16 rfl) (by decide) ?_ ?_
    · refine sv_iconst (pc := 74) (v := (0 : Int32)) (sv_d k_Mo_isFriend 40 rfl) (by decide) ?_
      exact sv_ret (pc := 75) (sv_d k_Mo_isFriend 41 rfl) ⟨_, rfl, rfl⟩ rfl
    · refine sv_aload_n (pc := 29) 1 (sv_d k_Mo_isFriend 17 rfl) rfl rfl ?_
      refine sv_getf (pc := 30) 35 (sv_d k_Mo_isFriend 18 rfl) cf12 (by decide) w1337 kd187 (ss_lt (by decide)) (lr_187_35 E _) ?_
      refine sv_iload (pc := 33) 0 (sv_d k_Mo_isFriend 19 rfl) rfl ?_
      refine ss_iald (pc := 35) (n := 60) (sv_d k_Mo_isFriend 20 rfl) kd207 (ss_lt (by decide)) rfl ?_
      refine sv_iload (pc := 36) 5 (sv_d k_Mo_isFriend 21 rfl) rfl ?_
      refine sv_icmp_ne (pc := 38) (tgt := 74) (sv_d k_Mo_isFriend 22 rfl) (by decide) ?_ ?_
      · refine sv_iconst (pc := 74) (v := (0 : Int32)) (sv_d k_Mo_isFriend 40 rfl) (by decide) ?_
        exact sv_ret (pc := 75) (sv_d k_Mo_isFriend 41 rfl) ⟨_, rfl, rfl⟩ rfl
      · refine sv_aload_n (pc := 41) 1 (sv_d k_Mo_isFriend 23 rfl) rfl rfl ?_
        refine sv_getf (pc := 42) 36 (sv_d k_Mo_isFriend 24 rfl) cf12 (by decide) w1338 kd187 (ss_lt (by decide)) (lr_187_36 E _) ?_
        refine sv_iload (pc := 45) 0 (sv_d k_Mo_isFriend 25 rfl) rfl ?_
        refine ss_iald (pc := 47) (n := 60) (sv_d k_Mo_isFriend 26 rfl) kd208 (ss_lt (by decide)) rfl ?_
        refine sv_iload (pc := 48) 6 (sv_d k_Mo_isFriend 27 rfl) rfl ?_
        refine sv_icmp_ne (pc := 50) (tgt := 74) (sv_d k_Mo_isFriend 28 rfl) (by decide) ?_ ?_
        · refine sv_iconst (pc := 74) (v := (0 : Int32)) (sv_d k_Mo_isFriend 40 rfl) (by decide) ?_
          exact sv_ret (pc := 75) (sv_d k_Mo_isFriend 41 rfl) ⟨_, rfl, rfl⟩ rfl
        · refine sv_aload_n (pc := 53) 1 (sv_d k_Mo_isFriend 29 rfl) rfl rfl ?_
          refine sv_aload_n (pc := 54) 1 (sv_d k_Mo_isFriend 30 rfl) rfl rfl ?_
          refine sv_getf (pc := 55) 56 (sv_d k_Mo_isFriend 31 rfl) cf12 (by decide) w1358 kd187 (ss_lt (by decide)) (lr_187_56 E _) ?_
          refine sv_iload_n (pc := 58) 2 (sv_d k_Mo_isFriend 32 rfl) rfl rfl ?_
          refine ss_iald (pc := 59) (n := 80) (sv_d k_Mo_isFriend 33 rfl) kd226 (ss_lt (by decide)) rfl ?_
          refine sv_iload (pc := 60) 7 (sv_d k_Mo_isFriend 34 rfl) rfl ?_
          refine sv_iload (pc := 62) 8 (sv_d k_Mo_isFriend 35 rfl) rfl ?_
          refine sv_callV (pc := 64) (ψ := (ss_pi s)) (As := [.int (s.1 226 x1.toNatClampNeg), .int x6, .int x7]) (rest := []) (c := 187) (sv_d k_Mo_isFriend 36 rfl) g_Mo_in w1545 in_Mo_in se_Mo_in cf12 kd187 (ss_lt (by decide)) rfl (Nat.le_of_ble_eq_true rfl) (V_Mo_in E (d + 0) (s.1 226 x1.toNatClampNeg) x6 x7 s) (Nat.le_of_ble_eq_true rfl) rfl (fun r2 => ?_)
          show sv_V E _ _ _ 67 _ [.int r2] (ss_e s) _
          refine sv_if_eq (pc := 67) (tgt := 74) (sv_d k_Mo_isFriend 37 rfl) (by decide) ?_ ?_
          · refine sv_iconst (pc := 74) (v := (0 : Int32)) (sv_d k_Mo_isFriend 40 rfl) (by decide) ?_
            exact sv_ret (pc := 75) (sv_d k_Mo_isFriend 41 rfl) ⟨_, rfl, rfl⟩ rfl
          · refine sv_iconst (pc := 70) (v := (1 : Int32)) (sv_d k_Mo_isFriend 38 rfl) (by decide) ?_
            refine sv_goto (pc := 71) (tgt := 75) (sv_d k_Mo_isFriend 39 rfl) (by decide) ?_
            exact sv_ret (pc := 75) (sv_d k_Mo_isFriend 41 rfl) ⟨_, rfl, rfl⟩ rfl
/-! Mo_friends -/
abbrev m_Mo_friends : sv_M := (yX12_friends, cX12_friends, 14, (some .int))
def t_Mo_friends : List (Nat × Instr × Nat) := [(0, .aload_n 0, 1), (1, .iload_n 1, 1), (2, .invokevirtual 255, 3), (5, .ifCond .eq 39, 3), (8, .aload_n 0, 1), (9, .iload_n 2, 1), (10, .invokevirtual 369, 3), (13, .ifCond .eq 31, 3), (16, .aload_n 0, 1), (17, .iload_n 3, 1), (18, .invokevirtual 259, 3), (21, .ifCond .eq 23, 3), (24, .aload_n 0, 1), (25, .iload 4, 2), (27, .invokevirtual 259, 3), (30, .ifCond .eq 14, 3), (33, .aload_n 0, 1), (34, .iload 7, 2), (36, .iconst 0, 1), (37, .iconst 3, 1), (38, .invokevirtual 251, 3), (41, .ifCond .ne 5, 3), (44, .iconst (-1), 1), (45, .ireturn, 1), (46, .aload_n 0, 1), (47, .iload 5, 2), (49, .invokevirtual 346, 3), (52, .ifCond .eq 19, 3), (55, .aload_n 0, 1), (56, .iload 6, 2), (58, .invokevirtual 346, 3), (61, .ifCond .eq 10, 3), (64, .iload 5, 2), (66, .iload 6, 2), (68, .if_icmp .le 6, 3), (71, .bipush (-2), 2), (73, .ireturn, 1), (74, .iconst 0, 1), (75, .istore 8, 2), (77, .iconst 0, 1), (78, .istore 9, 2), (80, .iconst 0, 1), (81, .istore 10, 2), (83, .iconst 0, 1), (84, .istore 11, 2), (86, .iconst 0, 1), (87, .istore 12, 2), (89, .iload 12, 2), (91, .aload_n 0, 1), (92, .getfield 163, 3), (95, .if_icmp .ge 87, 3), (98, .aload_n 0, 1), (99, .iload 12, 2), (101, .iload_n 1, 1), (102, .iload_n 2, 1), (103, .iload_n 3, 1), (104, .iload 4, 2), (106, .iload 5, 2), (108, .iload 6, 2), (110, .invokevirtual 439, 3), (113, .ifCond .ne 6, 3), (116, .goto 60, 3), (119, .aload_n 0, 1), (120, .getfield 178, 3), (123, .iload 12, 2), (125, .iaload, 1), (126, .aload_n 0, 1), (127, .getfield 175, 3), (130, .iload 12, 2), (132, .iaload, 1), (133, .idiv, 1), (134, .istore 13, 2), (136, .iload 8, 2), (138, .ifCond .eq 10, 3), (141, .iload 13, 2), (143, .iload 9, 2), (145, .if_icmp .ge 8, 3), (148, .iload 13, 2), (150, .goto 5, 3), (153, .iload 9, 2), (155, .istore 9, 2), (157, .iload 13, 2), (159, .iload 10, 2), (161, .if_icmp .le 8, 3), (164, .iload 13, 2), (166, .goto 5, 3), (169, .iload 10, 2), (171, .istore 10, 2), (173, .iinc 8 1, 3), (176, .iinc 12 1, 3), (179, .goto (-90), 3), (182, .iconst 0, 1), (183, .istore 12, 2), (185, .iload 12, 2), (187, .aload_n 0, 1), (188, .getfield 163, 3), (191, .if_icmp .ge 70, 3), (194, .aload_n 0, 1), (195, .iload 12, 2), (197, .iload_n 1, 1), (198, .iload_n 2, 1), (199, .iload_n 3, 1), (200, .iload 4, 2), (202, .iload 5, 2), (204, .iload 6, 2), (206, .invokevirtual 439, 3), (209, .ifCond .eq 46, 3), (212, .iload 10, 2), (214, .aload_n 0, 1), (215, .getfield 175, 3), (218, .iload 12, 2), (220, .iaload, 1), (221, .imul, 1), (222, .aload_n 0, 1), (223, .getfield 178, 3), (226, .iload 12, 2), (228, .iaload, 1), (229, .if_icmp .le 26, 3), (232, .iload 11, 2), (234, .iload 10, 2), (236, .aload_n 0, 1), (237, .getfield 175, 3), (240, .iload 12, 2), (242, .iaload, 1), (243, .imul, 1), (244, .aload_n 0, 1), (245, .getfield 178, 3), (248, .iload 12, 2), (250, .iaload, 1), (251, .isub, 1), (252, .iadd, 1), (253, .istore 11, 2), (255, .iinc 12 1, 3), (258, .goto (-73), 3), (261, .iload 7, 2), (263, .ifCond .ne 8, 3), (266, .iload 8, 2), (268, .goto 27, 3), (271, .iload 7, 2), (273, .iconst 1, 1), (274, .if_icmp .ne 8, 3), (277, .iload 9, 2), (279, .goto 16, 3), (282, .iload 7, 2), (284, .iconst 2, 1), (285, .if_icmp .ne 8, 3), (288, .iload 10, 2), (290, .goto 5, 3), (293, .iload 11, 2), (295, .ireturn, 1)]
theorem k_Mo_friends : sv_tk m_Mo_friends.2.1 t_Mo_friends := by decide +kernel
theorem g_Mo_friends : sv_G m_Mo_friends 7 := ⟨by decide +kernel, sv_in 1874 (by decide +kernel) rfl, sv_in 103 (by decide +kernel) rfl, ⟨by decide, by decide⟩, by decide +kernel, by decide⟩
theorem in_Mo_friends : Cond.instanceMethod m_Mo_friends.1 ∈ sv_T := sv_in 1872 (by decide +kernel) rfl
theorem se_Mo_friends : Cond.selects m_Mo_friends.1.cls m_Mo_friends.1 m_Mo_friends.1 ∈ sv_T := sv_in 1873 (by decide +kernel) rfl
def F_Mo_friends_b255 (s : sv_S) (kc185 : Int32 → Int32 → Int32 → Int32 → Int32 → Int32 → Int32 → Int32 → Int32 → Int32 → Int32 → Int32 → Option (Int32)) (x1 : Int32) (x2 : Int32) (x3 : Int32) (x4 : Int32) (x5 : Int32) (x6 : Int32) (x7 : Int32) (x8 : Int32) (x9 : Int32) (x10 : Int32) (x11 : Int32) (x12 : Int32) : Option (Int32) :=
  ss_let (x12 + (1 : Int32)) fun v9 =>
  kc185 x1 x2 x3 x4 x5 x6 x7 x8 x9 x10 x11 v9
theorem V_Mo_friends_b255 (E : sv_E) (d : Nat) (s : sv_S) (kc185 : Int32 → Int32 → Int32 → Int32 → Int32 → Int32 → Int32 → Int32 → Int32 → Int32 → Int32 → Int32 → Option (Int32)) (hc185 : ∀ (x1 : Int32) (x2 : Int32) (x3 : Int32) (x4 : Int32) (x5 : Int32) (x6 : Int32) (x7 : Int32) (x8 : Int32) (x9 : Int32) (x10 : Int32) (x11 : Int32) (x12 : Int32), sv_V E m_Mo_friends (d + 2) (ss_pi s) 185 [(0, sv_r E 187), (1, .int x1), (2, .int x2), (3, .int x3), (4, .int x4), (5, .int x5), (6, .int x6), (7, .int x7), (8, .int x8), (9, .int x9), (10, .int x10), (11, .int x11), (12, .int x12)] [] (ss_e s) (kc185 x1 x2 x3 x4 x5 x6 x7 x8 x9 x10 x11 x12)) (x1 : Int32) (x2 : Int32) (x3 : Int32) (x4 : Int32) (x5 : Int32) (x6 : Int32) (x7 : Int32) (x8 : Int32) (x9 : Int32) (x10 : Int32) (x11 : Int32) (x12 : Int32) : sv_V E m_Mo_friends (d + 2) (ss_pi s) 255 [(0, sv_r E 187), (1, .int x1), (2, .int x2), (3, .int x3), (4, .int x4), (5, .int x5), (6, .int x6), (7, .int x7), (8, .int x8), (9, .int x9), (10, .int x10), (11, .int x11), (12, .int x12)] [] (ss_e s) (F_Mo_friends_b255 s kc185 x1 x2 x3 x4 x5 x6 x7 x8 x9 x10 x11 x12) := by
  unfold F_Mo_friends_b255
  refine ss_letr (fun v9 e_v9 => ?_)
  refine sv_iinc (pc := 255) (v := v9) (lv' := [(12, .int v9), (0, sv_r E 187), (1, .int x1), (2, .int x2), (3, .int x3), (4, .int x4), (5, .int x5), (6, .int x6), (7, .int x7), (8, .int x8), (9, .int x9), (10, .int x10), (11, .int x11)]) (sv_d k_Mo_friends 132 rfl) (n := 12) rfl (by rw [e_v9]; rfl) (by decide) rfl ?_
  refine sv_goto (pc := 258) (tgt := 185) (sv_d k_Mo_friends 133 rfl) (by decide) ?_
  exact sv_loc [1, 2, 3, 4, 5, 6, 7, 8, 9, 10, 11, 12, 0] rfl (hc185 x1 x2 x3 x4 x5 x6 x7 x8 x9 x10 x11 v9)
def F_Mo_friends_b185 (s : sv_S) : Nat → Int32 → Int32 → Int32 → Int32 → Int32 → Int32 → Int32 → Int32 → Int32 → Int32 → Int32 → Int32 → Option (Int32)
  | 0 => fun _ _ _ _ _ _ _ _ _ _ _ _ => none
  | n + 1 => fun x1 x2 x3 x4 x5 x6 x7 x8 x9 x10 x11 x12 =>
    if (s.1 187 50) ≤ x12 then
      if x7 = 0 then
        some x8
      else
      if x7 = (1 : Int32) then
        some x9
      else
      if x7 = (2 : Int32) then
        some x10
      else
      some x11
    else
    (F_Mo_isFriend x12 x1 x2 x3 x4 x5 x6 s).bind fun r8 =>
    if r8 = 0 then
      F_Mo_friends_b255 s (F_Mo_friends_b185 s n) x1 x2 x3 x4 x5 x6 x7 x8 x9 x10 x11 x12
    else
    if sv_ib x12 80 = true then
      if sv_ib x12 80 = true then
        if (x10 * (s.1 224 x12.toNatClampNeg)) ≤ (s.1 225 x12.toNatClampNeg) then
          F_Mo_friends_b255 s (F_Mo_friends_b185 s n) x1 x2 x3 x4 x5 x6 x7 x8 x9 x10 x11 x12
        else
        if sv_ib x12 80 = true then
          if sv_ib x12 80 = true then
            ss_let (x11 + ((x10 * (s.1 224 x12.toNatClampNeg)) - (s.1 225 x12.toNatClampNeg))) fun v10 =>
            F_Mo_friends_b255 s (F_Mo_friends_b185 s n) x1 x2 x3 x4 x5 x6 x7 x8 x9 x10 v10 x12
          else none
        else none
      else none
    else none
theorem V_Mo_friends_b185 (E : sv_E) (d : Nat) (s : sv_S) : ∀ (n : Nat) (x1 : Int32) (x2 : Int32) (x3 : Int32) (x4 : Int32) (x5 : Int32) (x6 : Int32) (x7 : Int32) (x8 : Int32) (x9 : Int32) (x10 : Int32) (x11 : Int32) (x12 : Int32), sv_V E m_Mo_friends (d + 2) (ss_pi s) 185 [(0, sv_r E 187), (1, .int x1), (2, .int x2), (3, .int x3), (4, .int x4), (5, .int x5), (6, .int x6), (7, .int x7), (8, .int x8), (9, .int x9), (10, .int x10), (11, .int x11), (12, .int x12)] [] (ss_e s) (F_Mo_friends_b185 s n x1 x2 x3 x4 x5 x6 x7 x8 x9 x10 x11 x12) := by
  intro n
  induction n with
  | zero => intro x1 x2 x3 x4 x5 x6 x7 x8 x9 x10 x11 x12; exact sv_none
  | succ n ih =>
    intro x1 x2 x3 x4 x5 x6 x7 x8 x9 x10 x11 x12
    unfold F_Mo_friends_b185
    refine sv_iload (pc := 185) 12 (sv_d k_Mo_friends 93 rfl) rfl ?_
    refine sv_aload_n (pc := 187) 0 (sv_d k_Mo_friends 94 rfl) rfl rfl ?_
    refine sv_getf (pc := 188) 50 (sv_d k_Mo_friends 95 rfl) cf12 (by decide) w1352 kd187 (ss_lt (by decide)) rfl ?_
    refine sv_icmp_ge (pc := 191) (tgt := 261) (sv_d k_Mo_friends 96 rfl) (by decide) ?_ ?_
    · refine sv_iload (pc := 261) 7 (sv_d k_Mo_friends 134 rfl) rfl ?_
      refine sv_if_ne (pc := 263) (tgt := 271) (sv_d k_Mo_friends 135 rfl) (by decide) ?_ ?_
      · refine sv_iload (pc := 271) 7 (sv_d k_Mo_friends 138 rfl) rfl ?_
        refine sv_iconst (pc := 273) (v := (1 : Int32)) (sv_d k_Mo_friends 139 rfl) (by decide) ?_
        refine sv_icmp_ne (pc := 274) (tgt := 282) (sv_d k_Mo_friends 140 rfl) (by decide) ?_ ?_
        · refine sv_iload (pc := 282) 7 (sv_d k_Mo_friends 143 rfl) rfl ?_
          refine sv_iconst (pc := 284) (v := (2 : Int32)) (sv_d k_Mo_friends 144 rfl) (by decide) ?_
          refine sv_icmp_ne (pc := 285) (tgt := 293) (sv_d k_Mo_friends 145 rfl) (by decide) ?_ ?_
          · refine sv_iload (pc := 293) 11 (sv_d k_Mo_friends 148 rfl) rfl ?_
            exact sv_ret (pc := 295) (sv_d k_Mo_friends 149 rfl) ⟨_, rfl, rfl⟩ rfl
          · refine sv_iload (pc := 288) 10 (sv_d k_Mo_friends 146 rfl) rfl ?_
            refine sv_goto (pc := 290) (tgt := 295) (sv_d k_Mo_friends 147 rfl) (by decide) ?_
            exact sv_ret (pc := 295) (sv_d k_Mo_friends 149 rfl) ⟨_, rfl, rfl⟩ rfl
        · refine sv_iload (pc := 277) 9 (sv_d k_Mo_friends 141 rfl) rfl ?_
          refine sv_goto (pc := 279) (tgt := 295) (sv_d k_Mo_friends 142 rfl) (by decide) ?_
          exact sv_ret (pc := 295) (sv_d k_Mo_friends 149 rfl) ⟨_, rfl, rfl⟩ rfl
      · refine sv_iload (pc := 266) 8 (sv_d k_Mo_friends 136 rfl) rfl ?_
        refine sv_goto (pc := 268) (tgt := 295) (sv_d k_Mo_friends 137 rfl) (by decide) ?_
        exact sv_ret (pc := 295) (sv_d k_Mo_friends 149 rfl) ⟨_, rfl, rfl⟩ rfl
    · refine sv_aload_n (pc := 194) 0 (sv_d k_Mo_friends 97 rfl) rfl rfl ?_
      refine sv_iload (pc := 195) 12 (sv_d k_Mo_friends 98 rfl) rfl ?_
      refine sv_iload_n (pc := 197) 1 (sv_d k_Mo_friends 99 rfl) rfl rfl ?_
      refine sv_iload_n (pc := 198) 2 (sv_d k_Mo_friends 100 rfl) rfl rfl ?_
      refine sv_iload_n (pc := 199) 3 (sv_d k_Mo_friends 101 rfl) rfl rfl ?_
      refine sv_iload (pc := 200) 4 (sv_d k_Mo_friends 102 rfl) rfl ?_
      refine sv_iload (pc := 202) 5 (sv_d k_Mo_friends 103 rfl) rfl ?_
      refine sv_iload (pc := 204) 6 (sv_d k_Mo_friends 104 rfl) rfl ?_
      refine sv_callV (pc := 206) (ψ := (ss_pi s)) (As := [.int x12, .int x1, .int x2, .int x3, .int x4, .int x5, .int x6]) (rest := []) (c := 187) (sv_d k_Mo_friends 105 rfl) g_Mo_isFriend w1875 in_Mo_isFriend se_Mo_isFriend cf12 kd187 (ss_lt (by decide)) rfl (Nat.le_of_ble_eq_true rfl) (V_Mo_isFriend E (d + 0) x12 x1 x2 x3 x4 x5 x6 s) (Nat.le_of_ble_eq_true rfl) rfl (fun r8 => ?_)
      show sv_V E _ _ _ 209 _ [.int r8] (ss_e s) _
      refine sv_if_eq (pc := 209) (tgt := 255) (sv_d k_Mo_friends 106 rfl) (by decide) ?_ ?_
      · exact sv_loc [0, 1, 2, 3, 4, 5, 6, 7, 8, 9, 10, 11, 12] rfl (V_Mo_friends_b255 E d s (F_Mo_friends_b185 s n) ih x1 x2 x3 x4 x5 x6 x7 x8 x9 x10 x11 x12)
      · refine sv_iload (pc := 212) 10 (sv_d k_Mo_friends 107 rfl) rfl ?_
        refine sv_aload_n (pc := 214) 0 (sv_d k_Mo_friends 108 rfl) rfl rfl ?_
        refine sv_getf (pc := 215) 54 (sv_d k_Mo_friends 109 rfl) cf12 (by decide) w1356 kd187 (ss_lt (by decide)) (lr_187_54 E _) ?_
        refine sv_iload (pc := 218) 12 (sv_d k_Mo_friends 110 rfl) rfl ?_
        refine ss_iald (pc := 220) (n := 80) (sv_d k_Mo_friends 111 rfl) kd224 (ss_lt (by decide)) rfl ?_
        refine sv_imul (pc := 221) (sv_d k_Mo_friends 112 rfl) ?_
        refine sv_aload_n (pc := 222) 0 (sv_d k_Mo_friends 113 rfl) rfl rfl ?_
        refine sv_getf (pc := 223) 55 (sv_d k_Mo_friends 114 rfl) cf12 (by decide) w1357 kd187 (ss_lt (by decide)) (lr_187_55 E _) ?_
        refine sv_iload (pc := 226) 12 (sv_d k_Mo_friends 115 rfl) rfl ?_
        refine ss_iald (pc := 228) (n := 80) (sv_d k_Mo_friends 116 rfl) kd225 (ss_lt (by decide)) rfl ?_
        refine sv_icmp_le (pc := 229) (tgt := 255) (sv_d k_Mo_friends 117 rfl) (by decide) ?_ ?_
        · exact sv_loc [0, 1, 2, 3, 4, 5, 6, 7, 8, 9, 10, 11, 12] rfl (V_Mo_friends_b255 E d s (F_Mo_friends_b185 s n) ih x1 x2 x3 x4 x5 x6 x7 x8 x9 x10 x11 x12)
        · refine sv_iload (pc := 232) 11 (sv_d k_Mo_friends 118 rfl) rfl ?_
          refine sv_iload (pc := 234) 10 (sv_d k_Mo_friends 119 rfl) rfl ?_
          refine sv_aload_n (pc := 236) 0 (sv_d k_Mo_friends 120 rfl) rfl rfl ?_
          refine sv_getf (pc := 237) 54 (sv_d k_Mo_friends 121 rfl) cf12 (by decide) w1356 kd187 (ss_lt (by decide)) (lr_187_54 E _) ?_
          refine sv_iload (pc := 240) 12 (sv_d k_Mo_friends 122 rfl) rfl ?_
          refine ss_iald (pc := 242) (n := 80) (sv_d k_Mo_friends 123 rfl) kd224 (ss_lt (by decide)) rfl ?_
          refine sv_imul (pc := 243) (sv_d k_Mo_friends 124 rfl) ?_
          refine sv_aload_n (pc := 244) 0 (sv_d k_Mo_friends 125 rfl) rfl rfl ?_
          refine sv_getf (pc := 245) 55 (sv_d k_Mo_friends 126 rfl) cf12 (by decide) w1357 kd187 (ss_lt (by decide)) (lr_187_55 E _) ?_
          refine sv_iload (pc := 248) 12 (sv_d k_Mo_friends 127 rfl) rfl ?_
          refine ss_iald (pc := 250) (n := 80) (sv_d k_Mo_friends 128 rfl) kd225 (ss_lt (by decide)) rfl ?_
          refine sv_isub (pc := 251) (sv_d k_Mo_friends 129 rfl) ?_
          refine sv_iadd (pc := 252) (sv_d k_Mo_friends 130 rfl) ?_
          refine ss_top (fun v10 e_v10 => ?_)
          refine sv_istore (pc := 253) (lv' := [(11, .int v10), (0, sv_r E 187), (1, .int x1), (2, .int x2), (3, .int x3), (4, .int x4), (5, .int x5), (6, .int x6), (7, .int x7), (8, .int x8), (9, .int x9), (10, .int x10), (12, .int x12)]) (sv_d k_Mo_friends 131 rfl) (by decide) rfl ?_
          exact sv_loc [1, 2, 3, 4, 5, 6, 7, 8, 9, 10, 11, 0, 12] rfl (V_Mo_friends_b255 E d s (F_Mo_friends_b185 s n) ih x1 x2 x3 x4 x5 x6 x7 x8 x9 x10 v10 x12)
def F_Mo_friends_b176 (s : sv_S) (kc89 : Int32 → Int32 → Int32 → Int32 → Int32 → Int32 → Int32 → Int32 → Int32 → Int32 → Int32 → Int32 → Option (Int32)) (x1 : Int32) (x2 : Int32) (x3 : Int32) (x4 : Int32) (x5 : Int32) (x6 : Int32) (x7 : Int32) (x8 : Int32) (x9 : Int32) (x10 : Int32) (x11 : Int32) (x12 : Int32) : Option (Int32) :=
  ss_let (x12 + (1 : Int32)) fun v14 =>
  kc89 x1 x2 x3 x4 x5 x6 x7 x8 x9 x10 x11 v14
theorem V_Mo_friends_b176 (E : sv_E) (d : Nat) (s : sv_S) (kc89 : Int32 → Int32 → Int32 → Int32 → Int32 → Int32 → Int32 → Int32 → Int32 → Int32 → Int32 → Int32 → Option (Int32)) (hc89 : ∀ (x1 : Int32) (x2 : Int32) (x3 : Int32) (x4 : Int32) (x5 : Int32) (x6 : Int32) (x7 : Int32) (x8 : Int32) (x9 : Int32) (x10 : Int32) (x11 : Int32) (x12 : Int32), sv_V E m_Mo_friends (d + 2) (ss_pi s) 89 [(0, sv_r E 187), (1, .int x1), (2, .int x2), (3, .int x3), (4, .int x4), (5, .int x5), (6, .int x6), (7, .int x7), (8, .int x8), (9, .int x9), (10, .int x10), (11, .int x11), (12, .int x12)] [] (ss_e s) (kc89 x1 x2 x3 x4 x5 x6 x7 x8 x9 x10 x11 x12)) (x1 : Int32) (x2 : Int32) (x3 : Int32) (x4 : Int32) (x5 : Int32) (x6 : Int32) (x7 : Int32) (x8 : Int32) (x9 : Int32) (x10 : Int32) (x11 : Int32) (x12 : Int32) : sv_V E m_Mo_friends (d + 2) (ss_pi s) 176 [(0, sv_r E 187), (1, .int x1), (2, .int x2), (3, .int x3), (4, .int x4), (5, .int x5), (6, .int x6), (7, .int x7), (8, .int x8), (9, .int x9), (10, .int x10), (11, .int x11), (12, .int x12)] [] (ss_e s) (F_Mo_friends_b176 s kc89 x1 x2 x3 x4 x5 x6 x7 x8 x9 x10 x11 x12) := by
  unfold F_Mo_friends_b176
  refine ss_letr (fun v14 e_v14 => ?_)
  refine sv_iinc (pc := 176) (v := v14) (lv' := [(12, .int v14), (0, sv_r E 187), (1, .int x1), (2, .int x2), (3, .int x3), (4, .int x4), (5, .int x5), (6, .int x6), (7, .int x7), (8, .int x8), (9, .int x9), (10, .int x10), (11, .int x11)]) (sv_d k_Mo_friends 89 rfl) (n := 12) rfl (by rw [e_v14]; rfl) (by decide) rfl ?_
  refine sv_goto (pc := 179) (tgt := 89) (sv_d k_Mo_friends 90 rfl) (by decide) ?_
  exact sv_loc [1, 2, 3, 4, 5, 6, 7, 8, 9, 10, 11, 12, 0] rfl (hc89 x1 x2 x3 x4 x5 x6 x7 x8 x9 x10 x11 v14)
def F_Mo_friends_b171 (s : sv_S) (kc89 : Int32 → Int32 → Int32 → Int32 → Int32 → Int32 → Int32 → Int32 → Int32 → Int32 → Int32 → Int32 → Option (Int32)) (x1 : Int32) (x2 : Int32) (x3 : Int32) (x4 : Int32) (x5 : Int32) (x6 : Int32) (x7 : Int32) (x8 : Int32) (x9 : Int32) (x11 : Int32) (x12 : Int32) (t0 : Int32) : Option (Int32) :=
  ss_let (x8 + (1 : Int32)) fun v13 =>
  F_Mo_friends_b176 s kc89 x1 x2 x3 x4 x5 x6 x7 v13 x9 t0 x11 x12
theorem V_Mo_friends_b171 (E : sv_E) (d : Nat) (s : sv_S) (kc89 : Int32 → Int32 → Int32 → Int32 → Int32 → Int32 → Int32 → Int32 → Int32 → Int32 → Int32 → Int32 → Option (Int32)) (hc89 : ∀ (x1 : Int32) (x2 : Int32) (x3 : Int32) (x4 : Int32) (x5 : Int32) (x6 : Int32) (x7 : Int32) (x8 : Int32) (x9 : Int32) (x10 : Int32) (x11 : Int32) (x12 : Int32), sv_V E m_Mo_friends (d + 2) (ss_pi s) 89 [(0, sv_r E 187), (1, .int x1), (2, .int x2), (3, .int x3), (4, .int x4), (5, .int x5), (6, .int x6), (7, .int x7), (8, .int x8), (9, .int x9), (10, .int x10), (11, .int x11), (12, .int x12)] [] (ss_e s) (kc89 x1 x2 x3 x4 x5 x6 x7 x8 x9 x10 x11 x12)) (x1 : Int32) (x2 : Int32) (x3 : Int32) (x4 : Int32) (x5 : Int32) (x6 : Int32) (x7 : Int32) (x8 : Int32) (x9 : Int32) (x11 : Int32) (x12 : Int32) (t0 : Int32) : sv_V E m_Mo_friends (d + 2) (ss_pi s) 171 [(0, sv_r E 187), (1, .int x1), (2, .int x2), (3, .int x3), (4, .int x4), (5, .int x5), (6, .int x6), (7, .int x7), (8, .int x8), (9, .int x9), (11, .int x11), (12, .int x12)] [.int t0] (ss_e s) (F_Mo_friends_b171 s kc89 x1 x2 x3 x4 x5 x6 x7 x8 x9 x11 x12 t0) := by
  unfold F_Mo_friends_b171
  refine sv_istore (pc := 171) (lv' := [(10, .int t0), (0, sv_r E 187), (1, .int x1), (2, .int x2), (3, .int x3), (4, .int x4), (5, .int x5), (6, .int x6), (7, .int x7), (8, .int x8), (9, .int x9), (11, .int x11), (12, .int x12)]) (sv_d k_Mo_friends 87 rfl) (by decide) rfl ?_
  refine ss_letr (fun v13 e_v13 => ?_)
  refine sv_iinc (pc := 173) (v := v13) (lv' := [(8, .int v13), (10, .int t0), (0, sv_r E 187), (1, .int x1), (2, .int x2), (3, .int x3), (4, .int x4), (5, .int x5), (6, .int x6), (7, .int x7), (9, .int x9), (11, .int x11), (12, .int x12)]) (sv_d k_Mo_friends 88 rfl) (n := 9) rfl (by rw [e_v13]; rfl) (by decide) rfl ?_
  exact sv_loc [2, 3, 4, 5, 6, 7, 8, 9, 0, 10, 1, 11, 12] rfl (V_Mo_friends_b176 E d s kc89 hc89 x1 x2 x3 x4 x5 x6 x7 v13 x9 t0 x11 x12)
def F_Mo_friends_b155 (s : sv_S) (kc89 : Int32 → Int32 → Int32 → Int32 → Int32 → Int32 → Int32 → Int32 → Int32 → Int32 → Int32 → Int32 → Option (Int32)) (x1 : Int32) (x2 : Int32) (x3 : Int32) (x4 : Int32) (x5 : Int32) (x6 : Int32) (x7 : Int32) (x8 : Int32) (x10 : Int32) (x11 : Int32) (x12 : Int32) (x13 : Int32) (t0 : Int32) : Option (Int32) :=
  if x13 ≤ x10 then
    F_Mo_friends_b171 s kc89 x1 x2 x3 x4 x5 x6 x7 x8 t0 x11 x12 x10
  else
  F_Mo_friends_b171 s kc89 x1 x2 x3 x4 x5 x6 x7 x8 t0 x11 x12 x13
theorem V_Mo_friends_b155 (E : sv_E) (d : Nat) (s : sv_S) (kc89 : Int32 → Int32 → Int32 → Int32 → Int32 → Int32 → Int32 → Int32 → Int32 → Int32 → Int32 → Int32 → Option (Int32)) (hc89 : ∀ (x1 : Int32) (x2 : Int32) (x3 : Int32) (x4 : Int32) (x5 : Int32) (x6 : Int32) (x7 : Int32) (x8 : Int32) (x9 : Int32) (x10 : Int32) (x11 : Int32) (x12 : Int32), sv_V E m_Mo_friends (d + 2) (ss_pi s) 89 [(0, sv_r E 187), (1, .int x1), (2, .int x2), (3, .int x3), (4, .int x4), (5, .int x5), (6, .int x6), (7, .int x7), (8, .int x8), (9, .int x9), (10, .int x10), (11, .int x11), (12, .int x12)] [] (ss_e s) (kc89 x1 x2 x3 x4 x5 x6 x7 x8 x9 x10 x11 x12)) (x1 : Int32) (x2 : Int32) (x3 : Int32) (x4 : Int32) (x5 : Int32) (x6 : Int32) (x7 : Int32) (x8 : Int32) (x10 : Int32) (x11 : Int32) (x12 : Int32) (x13 : Int32) (t0 : Int32) : sv_V E m_Mo_friends (d + 2) (ss_pi s) 155 [(0, sv_r E 187), (1, .int x1), (2, .int x2), (3, .int x3), (4, .int x4), (5, .int x5), (6, .int x6), (7, .int x7), (8, .int x8), (10, .int x10), (11, .int x11), (12, .int x12), (13, .int x13)] [.int t0] (ss_e s) (F_Mo_friends_b155 s kc89 x1 x2 x3 x4 x5 x6 x7 x8 x10 x11 x12 x13 t0) := by
  unfold F_Mo_friends_b155
  refine sv_istore (pc := 155) (lv' := [(9, .int t0), (0, sv_r E 187), (1, .int x1), (2, .int x2), (3, .int x3), (4, .int x4), (5, .int x5), (6, .int x6), (7, .int x7), (8, .int x8), (10, .int x10), (11, .int x11), (12, .int x12), (13, .int x13)]) (sv_d k_Mo_friends 80 rfl) (by decide) rfl ?_
  refine sv_iload (pc := 157) 13 (sv_d k_Mo_friends 81 rfl) rfl ?_
  refine sv_iload (pc := 159) 10 (sv_d k_Mo_friends 82 rfl) rfl ?_
  refine sv_icmp_le (pc := 161) (tgt := 169) (sv_d k_Mo_friends 83 rfl) (by decide) ?_ ?_
  · refine sv_iload (pc := 169) 10 (sv_d k_Mo_friends 86 rfl) rfl ?_
    exact sv_loc [1, 2, 3, 4, 5, 6, 7, 8, 9, 0, 11, 12] rfl (V_Mo_friends_b171 E d s kc89 hc89 x1 x2 x3 x4 x5 x6 x7 x8 t0 x11 x12 x10)
  · refine sv_iload (pc := 164) 13 (sv_d k_Mo_friends 84 rfl) rfl ?_
    refine sv_goto (pc := 166) (tgt := 171) (sv_d k_Mo_friends 85 rfl) (by decide) ?_
    exact sv_loc [1, 2, 3, 4, 5, 6, 7, 8, 9, 0, 11, 12] rfl (V_Mo_friends_b171 E d s kc89 hc89 x1 x2 x3 x4 x5 x6 x7 x8 t0 x11 x12 x13)
def F_Mo_friends_b148 (s : sv_S) (kc89 : Int32 → Int32 → Int32 → Int32 → Int32 → Int32 → Int32 → Int32 → Int32 → Int32 → Int32 → Int32 → Option (Int32)) (x1 : Int32) (x2 : Int32) (x3 : Int32) (x4 : Int32) (x5 : Int32) (x6 : Int32) (x7 : Int32) (x8 : Int32) (x10 : Int32) (x11 : Int32) (x12 : Int32) (x13 : Int32) : Option (Int32) :=
  F_Mo_friends_b155 s kc89 x1 x2 x3 x4 x5 x6 x7 x8 x10 x11 x12 x13 x13
theorem V_Mo_friends_b148 (E : sv_E) (d : Nat) (s : sv_S) (kc89 : Int32 → Int32 → Int32 → Int32 → Int32 → Int32 → Int32 → Int32 → Int32 → Int32 → Int32 → Int32 → Option (Int32)) (hc89 : ∀ (x1 : Int32) (x2 : Int32) (x3 : Int32) (x4 : Int32) (x5 : Int32) (x6 : Int32) (x7 : Int32) (x8 : Int32) (x9 : Int32) (x10 : Int32) (x11 : Int32) (x12 : Int32), sv_V E m_Mo_friends (d + 2) (ss_pi s) 89 [(0, sv_r E 187), (1, .int x1), (2, .int x2), (3, .int x3), (4, .int x4), (5, .int x5), (6, .int x6), (7, .int x7), (8, .int x8), (9, .int x9), (10, .int x10), (11, .int x11), (12, .int x12)] [] (ss_e s) (kc89 x1 x2 x3 x4 x5 x6 x7 x8 x9 x10 x11 x12)) (x1 : Int32) (x2 : Int32) (x3 : Int32) (x4 : Int32) (x5 : Int32) (x6 : Int32) (x7 : Int32) (x8 : Int32) (x10 : Int32) (x11 : Int32) (x12 : Int32) (x13 : Int32) : sv_V E m_Mo_friends (d + 2) (ss_pi s) 148 [(0, sv_r E 187), (1, .int x1), (2, .int x2), (3, .int x3), (4, .int x4), (5, .int x5), (6, .int x6), (7, .int x7), (8, .int x8), (10, .int x10), (11, .int x11), (12, .int x12), (13, .int x13)] [] (ss_e s) (F_Mo_friends_b148 s kc89 x1 x2 x3 x4 x5 x6 x7 x8 x10 x11 x12 x13) := by
  unfold F_Mo_friends_b148
  refine sv_iload (pc := 148) 12 (sv_d k_Mo_friends 77 rfl) rfl ?_
  refine sv_goto (pc := 150) (tgt := 155) (sv_d k_Mo_friends 78 rfl) (by decide) ?_
  exact sv_loc [0, 1, 2, 3, 4, 5, 6, 7, 8, 9, 10, 11, 12] rfl (V_Mo_friends_b155 E d s kc89 hc89 x1 x2 x3 x4 x5 x6 x7 x8 x10 x11 x12 x13 x13)
def F_Mo_friends_b89 (s : sv_S) : Nat → Int32 → Int32 → Int32 → Int32 → Int32 → Int32 → Int32 → Int32 → Int32 → Int32 → Int32 → Int32 → Option (Int32)
  | 0 => fun _ _ _ _ _ _ _ _ _ _ _ _ => none
  | n + 1 => fun x1 x2 x3 x4 x5 x6 x7 x8 x9 x10 x11 x12 =>
    if (s.1 187 50) ≤ x12 then
      F_Mo_friends_b185 s ss_F x1 x2 x3 x4 x5 x6 x7 x8 x9 x10 x11 (0 : Int32)
    else
    (F_Mo_isFriend x12 x1 x2 x3 x4 x5 x6 s).bind fun r11 =>
    if r11 = 0 then
      F_Mo_friends_b176 s (F_Mo_friends_b89 s n) x1 x2 x3 x4 x5 x6 x7 x8 x9 x10 x11 x12
    else
    if sv_ib x12 80 = true then
      if sv_ib x12 80 = true then
        if s.1 224 x12.toNatClampNeg = 0 then none else
        ss_let ((s.1 225 x12.toNatClampNeg) / (s.1 224 x12.toNatClampNeg)) fun v12 =>
        if x8 = 0 then
          F_Mo_friends_b148 s (F_Mo_friends_b89 s n) x1 x2 x3 x4 x5 x6 x7 x8 x10 x11 x12 v12
        else
        if x9 ≤ v12 then
          F_Mo_friends_b155 s (F_Mo_friends_b89 s n) x1 x2 x3 x4 x5 x6 x7 x8 x10 x11 x12 v12 x9
        else
        F_Mo_friends_b148 s (F_Mo_friends_b89 s n) x1 x2 x3 x4 x5 x6 x7 x8 x10 x11 x12 v12
      else none
    else none
theorem V_Mo_friends_b89 (E : sv_E) (d : Nat) (s : sv_S) : ∀ (n : Nat) (x1 : Int32) (x2 : Int32) (x3 : Int32) (x4 : Int32) (x5 : Int32) (x6 : Int32) (x7 : Int32) (x8 : Int32) (x9 : Int32) (x10 : Int32) (x11 : Int32) (x12 : Int32), sv_V E m_Mo_friends (d + 2) (ss_pi s) 89 [(0, sv_r E 187), (1, .int x1), (2, .int x2), (3, .int x3), (4, .int x4), (5, .int x5), (6, .int x6), (7, .int x7), (8, .int x8), (9, .int x9), (10, .int x10), (11, .int x11), (12, .int x12)] [] (ss_e s) (F_Mo_friends_b89 s n x1 x2 x3 x4 x5 x6 x7 x8 x9 x10 x11 x12) := by
  intro n
  induction n with
  | zero => intro x1 x2 x3 x4 x5 x6 x7 x8 x9 x10 x11 x12; exact sv_none
  | succ n ih =>
    intro x1 x2 x3 x4 x5 x6 x7 x8 x9 x10 x11 x12
    unfold F_Mo_friends_b89
    refine sv_iload (pc := 89) 12 (sv_d k_Mo_friends 47 rfl) rfl ?_
    refine sv_aload_n (pc := 91) 0 (sv_d k_Mo_friends 48 rfl) rfl rfl ?_
    refine sv_getf (pc := 92) 50 (sv_d k_Mo_friends 49 rfl) cf12 (by decide) w1352 kd187 (ss_lt (by decide)) rfl ?_
    refine sv_icmp_ge (pc := 95) (tgt := 182) (sv_d k_Mo_friends 50 rfl) (by decide) ?_ ?_
    · refine sv_iconst (pc := 182) (v := (0 : Int32)) (sv_d k_Mo_friends 91 rfl) (by decide) ?_
      refine sv_istore (pc := 183) (lv' := [(12, .int (0 : Int32)), (0, sv_r E 187), (1, .int x1), (2, .int x2), (3, .int x3), (4, .int x4), (5, .int x5), (6, .int x6), (7, .int x7), (8, .int x8), (9, .int x9), (10, .int x10), (11, .int x11)]) (sv_d k_Mo_friends 92 rfl) (by decide) rfl ?_
      exact sv_loc [1, 2, 3, 4, 5, 6, 7, 8, 9, 10, 11, 12, 0] rfl (V_Mo_friends_b185 E d s ss_F x1 x2 x3 x4 x5 x6 x7 x8 x9 x10 x11 (0 : Int32))
    · refine sv_aload_n (pc := 98) 0 (sv_d k_Mo_friends 51 rfl) rfl rfl ?_
      refine sv_iload (pc := 99) 12 (sv_d k_Mo_friends 52 rfl) rfl ?_
      refine sv_iload_n (pc := 101) 1 (sv_d k_Mo_friends 53 rfl) rfl rfl ?_
      refine sv_iload_n (pc := 102) 2 (sv_d k_Mo_friends 54 rfl) rfl rfl ?_
      refine sv_iload_n (pc := 103) 3 (sv_d k_Mo_friends 55 rfl) rfl rfl ?_
      refine sv_iload (pc := 104) 4 (sv_d k_Mo_friends 56 rfl) rfl ?_
      refine sv_iload (pc := 106) 5 (sv_d k_Mo_friends 57 rfl) rfl ?_
      refine sv_iload (pc := 108) 6 (sv_d k_Mo_friends 58 rfl) rfl ?_
      refine sv_callV (pc := 110) (ψ := (ss_pi s)) (As := [.int x12, .int x1, .int x2, .int x3, .int x4, .int x5, .int x6]) (rest := []) (c := 187) (sv_d k_Mo_friends 59 rfl) g_Mo_isFriend w1875 in_Mo_isFriend se_Mo_isFriend cf12 kd187 (ss_lt (by decide)) rfl (Nat.le_of_ble_eq_true rfl) (V_Mo_isFriend E (d + 0) x12 x1 x2 x3 x4 x5 x6 s) (Nat.le_of_ble_eq_true rfl) rfl (fun r11 => ?_)
      show sv_V E _ _ _ 113 _ [.int r11] (ss_e s) _
      refine sv_if_ne (pc := 113) (tgt := 119) (sv_d k_Mo_friends 60 rfl) (by decide) ?_ ?_
      · refine sv_aload_n (pc := 119) 0 (sv_d k_Mo_friends 62 rfl) rfl rfl ?_
        refine sv_getf (pc := 120) 55 (sv_d k_Mo_friends 63 rfl) cf12 (by decide) w1357 kd187 (ss_lt (by decide)) (lr_187_55 E _) ?_
        refine sv_iload (pc := 123) 12 (sv_d k_Mo_friends 64 rfl) rfl ?_
        refine ss_iald (pc := 125) (n := 80) (sv_d k_Mo_friends 65 rfl) kd225 (ss_lt (by decide)) rfl ?_
        refine sv_aload_n (pc := 126) 0 (sv_d k_Mo_friends 66 rfl) rfl rfl ?_
        refine sv_getf (pc := 127) 54 (sv_d k_Mo_friends 67 rfl) cf12 (by decide) w1356 kd187 (ss_lt (by decide)) (lr_187_54 E _) ?_
        refine sv_iload (pc := 130) 12 (sv_d k_Mo_friends 68 rfl) rfl ?_
        refine ss_iald (pc := 132) (n := 80) (sv_d k_Mo_friends 69 rfl) kd224 (ss_lt (by decide)) rfl ?_
        refine sv_idiv (pc := 133) (sv_d k_Mo_friends 70 rfl) ?_
        refine ss_top (fun v12 e_v12 => ?_)
        refine sv_istore (pc := 134) (lv' := [(13, .int v12), (0, sv_r E 187), (1, .int x1), (2, .int x2), (3, .int x3), (4, .int x4), (5, .int x5), (6, .int x6), (7, .int x7), (8, .int x8), (9, .int x9), (10, .int x10), (11, .int x11), (12, .int x12)]) (sv_d k_Mo_friends 71 rfl) (by decide) rfl ?_
        refine sv_iload (pc := 136) 9 (sv_d k_Mo_friends 72 rfl) rfl ?_
        refine sv_if_eq (pc := 138) (tgt := 148) (sv_d k_Mo_friends 73 rfl) (by decide) ?_ ?_
        · exact sv_loc [1, 2, 3, 4, 5, 6, 7, 8, 9, 11, 12, 13, 0] rfl (V_Mo_friends_b148 E d s (F_Mo_friends_b89 s n) ih x1 x2 x3 x4 x5 x6 x7 x8 x10 x11 x12 v12)
        · refine sv_iload (pc := 141) 0 (sv_d k_Mo_friends 74 rfl) rfl ?_
          refine sv_iload (pc := 143) 10 (sv_d k_Mo_friends 75 rfl) rfl ?_
          refine sv_icmp_ge (pc := 145) (tgt := 153) (sv_d k_Mo_friends 76 rfl) (by decide) ?_ ?_
          · refine sv_iload (pc := 153) 10 (sv_d k_Mo_friends 79 rfl) rfl ?_
            exact sv_loc [1, 2, 3, 4, 5, 6, 7, 8, 9, 11, 12, 13, 0] rfl (V_Mo_friends_b155 E d s (F_Mo_friends_b89 s n) ih x1 x2 x3 x4 x5 x6 x7 x8 x10 x11 x12 v12 x9)
          · exact sv_loc [1, 2, 3, 4, 5, 6, 7, 8, 9, 11, 12, 13, 0] rfl (V_Mo_friends_b148 E d s (F_Mo_friends_b89 s n) ih x1 x2 x3 x4 x5 x6 x7 x8 x10 x11 x12 v12)
      · refine sv_goto (pc := 116) (tgt := 176) (sv_d k_Mo_friends 61 rfl) (by decide) ?_
        exact sv_loc [0, 1, 2, 3, 4, 5, 6, 7, 8, 9, 10, 11, 12] rfl (V_Mo_friends_b176 E d s (F_Mo_friends_b89 s n) ih x1 x2 x3 x4 x5 x6 x7 x8 x9 x10 x11 x12)
def F_Mo_friends (x1 : Int32) (x2 : Int32) (x3 : Int32) (x4 : Int32) (x5 : Int32) (x6 : Int32) (x7 : Int32) (s : sv_S) : Option (Int32) :=
  (F_Mo_isOwner x1 s).bind fun r1 =>
  if r1 = 0 then
    some (-1 : Int32)
  else
  (F_Mo_isGood x2 s).bind fun r2 =>
  if r2 = 0 then
    some (-1 : Int32)
  else
  (F_Mo_isStation x3 s).bind fun r3 =>
  if r3 = 0 then
    some (-1 : Int32)
  else
  (F_Mo_isStation x4 s).bind fun r4 =>
  if r4 = 0 then
    some (-1 : Int32)
  else
  (F_Mo_in x7 (0 : Int32) (3 : Int32) s).bind fun r5 =>
  if r5 = 0 then
    some (-1 : Int32)
  else
  (F_Mo_isDay x5 s).bind fun r6 =>
  if r6 = 0 then
    some (-2 : Int32)
  else
  (F_Mo_isDay x6 s).bind fun r7 =>
  if r7 = 0 then
    some (-2 : Int32)
  else
  if x5 ≤ x6 then
    F_Mo_friends_b89 s ss_F x1 x2 x3 x4 x5 x6 x7 (0 : Int32) (0 : Int32) (0 : Int32) (0 : Int32) (0 : Int32)
  else
  some (-2 : Int32)
theorem V_Mo_friends (E : sv_E) (d : Nat) (x1 : Int32) (x2 : Int32) (x3 : Int32) (x4 : Int32) (x5 : Int32) (x6 : Int32) (x7 : Int32) (s : sv_S) : sv_V E m_Mo_friends (d + 2) (ss_pi s) 0 (lv_args 0 [sv_r E 187, .int x1, .int x2, .int x3, .int x4, .int x5, .int x6, .int x7]) [] (ss_e s) (F_Mo_friends x1 x2 x3 x4 x5 x6 x7 s) := by
  show sv_V E m_Mo_friends (d + 2) (ss_pi s) 0 [(0, sv_r E 187), (1, .int x1), (2, .int x2), (3, .int x3), (4, .int x4), (5, .int x5), (6, .int x6), (7, .int x7)] [] (ss_e s) _
  unfold F_Mo_friends
  refine sv_aload_n (pc := 0) 0 (sv_d k_Mo_friends 0 rfl) rfl rfl ?_
  refine sv_iload_n (pc := 1) 1 (sv_d k_Mo_friends 1 rfl) rfl rfl ?_
  refine sv_callV (pc := 2) (ψ := (ss_pi s)) (As := [.int x1]) (rest := []) (c := 187) (sv_d k_Mo_friends 2 rfl) g_Mo_isOwner w1553 in_Mo_isOwner se_Mo_isOwner cf12 kd187 (ss_lt (by decide)) rfl (Nat.le_of_ble_eq_true rfl) (V_Mo_isOwner E (d + 0) x1 s) (Nat.le_of_ble_eq_true rfl) rfl (fun r1 => ?_)
  show sv_V E _ _ _ 5 _ [.int r1] (ss_e s) _
  refine sv_if_eq (pc := 5) (tgt := 44) (sv_d k_Mo_friends 3 rfl) (by decide) ?_ ?_
  · refine sv_iconst (pc := 44) (v := (-1 : Int32)) (sv_d k_Mo_friends 22 rfl) (by decide) ?_
    exact sv_ret (pc := 45) (sv_d k_Mo_friends 23 rfl) ⟨_, rfl, rfl⟩ rfl
  · refine sv_aload_n (pc := 8) 0 (sv_d k_Mo_friends 4 rfl) rfl rfl ?_
    refine sv_iload_n (pc := 9) 2 (sv_d k_Mo_friends 5 rfl) rfl rfl ?_
    refine sv_callV (pc := 10) (ψ := (ss_pi s)) (As := [.int x2]) (rest := []) (c := 187) (sv_d k_Mo_friends 6 rfl) g_Mo_isGood w1698 in_Mo_isGood se_Mo_isGood cf12 kd187 (ss_lt (by decide)) rfl (Nat.le_of_ble_eq_true rfl) (V_Mo_isGood E (d + 0) x2 s) (Nat.le_of_ble_eq_true rfl) rfl (fun r2 => ?_)
    show sv_V E _ _ _ 13 _ [.int r2] (ss_e s) _
    refine sv_if_eq (pc := 13) (tgt := 44) (sv_d k_Mo_friends 7 rfl) (by decide) ?_ ?_
    · refine sv_iconst (pc := 44) (v := (-1 : Int32)) (sv_d k_Mo_friends 22 rfl) (by decide) ?_
      exact sv_ret (pc := 45) (sv_d k_Mo_friends 23 rfl) ⟨_, rfl, rfl⟩ rfl
    · refine sv_aload_n (pc := 16) 0 (sv_d k_Mo_friends 8 rfl) rfl rfl ?_
      refine sv_iload_n (pc := 17) 3 (sv_d k_Mo_friends 9 rfl) rfl rfl ?_
      refine sv_callV (pc := 18) (ψ := (ss_pi s)) (As := [.int x3]) (rest := []) (c := 187) (sv_d k_Mo_friends 10 rfl) g_Mo_isStation w1557 in_Mo_isStation se_Mo_isStation cf12 kd187 (ss_lt (by decide)) rfl (Nat.le_of_ble_eq_true rfl) (V_Mo_isStation E (d + 0) x3 s) (Nat.le_of_ble_eq_true rfl) rfl (fun r3 => ?_)
      show sv_V E _ _ _ 21 _ [.int r3] (ss_e s) _
      refine sv_if_eq (pc := 21) (tgt := 44) (sv_d k_Mo_friends 11 rfl) (by decide) ?_ ?_
      · refine sv_iconst (pc := 44) (v := (-1 : Int32)) (sv_d k_Mo_friends 22 rfl) (by decide) ?_
        exact sv_ret (pc := 45) (sv_d k_Mo_friends 23 rfl) ⟨_, rfl, rfl⟩ rfl
      · refine sv_aload_n (pc := 24) 0 (sv_d k_Mo_friends 12 rfl) rfl rfl ?_
        refine sv_iload (pc := 25) 4 (sv_d k_Mo_friends 13 rfl) rfl ?_
        refine sv_callV (pc := 27) (ψ := (ss_pi s)) (As := [.int x4]) (rest := []) (c := 187) (sv_d k_Mo_friends 14 rfl) g_Mo_isStation w1557 in_Mo_isStation se_Mo_isStation cf12 kd187 (ss_lt (by decide)) rfl (Nat.le_of_ble_eq_true rfl) (V_Mo_isStation E (d + 0) x4 s) (Nat.le_of_ble_eq_true rfl) rfl (fun r4 => ?_)
        show sv_V E _ _ _ 30 _ [.int r4] (ss_e s) _
        refine sv_if_eq (pc := 30) (tgt := 44) (sv_d k_Mo_friends 15 rfl) (by decide) ?_ ?_
        · refine sv_iconst (pc := 44) (v := (-1 : Int32)) (sv_d k_Mo_friends 22 rfl) (by decide) ?_
          exact sv_ret (pc := 45) (sv_d k_Mo_friends 23 rfl) ⟨_, rfl, rfl⟩ rfl
        · refine sv_aload_n (pc := 33) 0 (sv_d k_Mo_friends 16 rfl) rfl rfl ?_
          refine sv_iload (pc := 34) 7 (sv_d k_Mo_friends 17 rfl) rfl ?_
          refine sv_iconst (pc := 36) (v := (0 : Int32)) (sv_d k_Mo_friends 18 rfl) (by decide) ?_
          refine sv_iconst (pc := 37) (v := (3 : Int32)) (sv_d k_Mo_friends 19 rfl) (by decide) ?_
          refine sv_callV (pc := 38) (ψ := (ss_pi s)) (As := [.int x7, .int (0 : Int32), .int (3 : Int32)]) (rest := []) (c := 187) (sv_d k_Mo_friends 20 rfl) g_Mo_in w1545 in_Mo_in se_Mo_in cf12 kd187 (ss_lt (by decide)) rfl (Nat.le_of_ble_eq_true rfl) (V_Mo_in E (d + 1) x7 (0 : Int32) (3 : Int32) s) (Nat.le_of_ble_eq_true rfl) rfl (fun r5 => ?_)
          show sv_V E _ _ _ 41 _ [.int r5] (ss_e s) _
          refine sv_if_ne (pc := 41) (tgt := 46) (sv_d k_Mo_friends 21 rfl) (by decide) ?_ ?_
          · refine sv_aload_n (pc := 46) 0 (sv_d k_Mo_friends 24 rfl) rfl rfl ?_
            refine sv_iload (pc := 47) 5 (sv_d k_Mo_friends 25 rfl) rfl ?_
            refine sv_callV (pc := 49) (ψ := (ss_pi s)) (As := [.int x5]) (rest := []) (c := 187) (sv_d k_Mo_friends 26 rfl) g_Mo_isDay w1594 in_Mo_isDay se_Mo_isDay cf12 kd187 (ss_lt (by decide)) rfl (Nat.le_of_ble_eq_true rfl) (V_Mo_isDay E (d + 0) x5 s) (Nat.le_of_ble_eq_true rfl) rfl (fun r6 => ?_)
            show sv_V E _ _ _ 52 _ [.int r6] (ss_e s) _
            refine sv_if_eq (pc := 52) (tgt := 71) (sv_d k_Mo_friends 27 rfl) (by decide) ?_ ?_
            · refine sv_bipush (pc := 71) (v := (-2 : Int32)) (sv_d k_Mo_friends 35 rfl) (by decide) ?_
              exact sv_ret (pc := 73) (sv_d k_Mo_friends 36 rfl) ⟨_, rfl, rfl⟩ rfl
            · refine sv_aload_n (pc := 55) 0 (sv_d k_Mo_friends 28 rfl) rfl rfl ?_
              refine sv_iload (pc := 56) 6 (sv_d k_Mo_friends 29 rfl) rfl ?_
              refine sv_callV (pc := 58) (ψ := (ss_pi s)) (As := [.int x6]) (rest := []) (c := 187) (sv_d k_Mo_friends 30 rfl) g_Mo_isDay w1594 in_Mo_isDay se_Mo_isDay cf12 kd187 (ss_lt (by decide)) rfl (Nat.le_of_ble_eq_true rfl) (V_Mo_isDay E (d + 0) x6 s) (Nat.le_of_ble_eq_true rfl) rfl (fun r7 => ?_)
              show sv_V E _ _ _ 61 _ [.int r7] (ss_e s) _
              refine sv_if_eq (pc := 61) (tgt := 71) (sv_d k_Mo_friends 31 rfl) (by decide) ?_ ?_
              · refine sv_bipush (pc := 71) (v := (-2 : Int32)) (sv_d k_Mo_friends 35 rfl) (by decide) ?_
                exact sv_ret (pc := 73) (sv_d k_Mo_friends 36 rfl) ⟨_, rfl, rfl⟩ rfl
              · refine sv_iload (pc := 64) 5 (sv_d k_Mo_friends 32 rfl) rfl ?_
                refine sv_iload (pc := 66) 6 (sv_d k_Mo_friends 33 rfl) rfl ?_
                refine sv_icmp_le (pc := 68) (tgt := 74) (sv_d k_Mo_friends 34 rfl) (by decide) ?_ ?_
                · refine sv_iconst (pc := 74) (v := (0 : Int32)) (sv_d k_Mo_friends 37 rfl) (by decide) ?_
                  refine sv_istore (pc := 75) (lv' := [(8, .int (0 : Int32)), (0, sv_r E 187), (1, .int x1), (2, .int x2), (3, .int x3), (4, .int x4), (5, .int x5), (6, .int x6), (7, .int x7)]) (sv_d k_Mo_friends 38 rfl) (by decide) rfl ?_
                  refine sv_iconst (pc := 77) (v := (0 : Int32)) (sv_d k_Mo_friends 39 rfl) (by decide) ?_
                  refine sv_istore (pc := 78) (lv' := [(9, .int (0 : Int32)), (8, .int (0 : Int32)), (0, sv_r E 187), (1, .int x1), (2, .int x2), (3, .int x3), (4, .int x4), (5, .int x5), (6, .int x6), (7, .int x7)]) (sv_d k_Mo_friends 40 rfl) (by decide) rfl ?_
                  refine sv_iconst (pc := 80) (v := (0 : Int32)) (sv_d k_Mo_friends 41 rfl) (by decide) ?_
                  refine sv_istore (pc := 81) (lv' := [(10, .int (0 : Int32)), (9, .int (0 : Int32)), (8, .int (0 : Int32)), (0, sv_r E 187), (1, .int x1), (2, .int x2), (3, .int x3), (4, .int x4), (5, .int x5), (6, .int x6), (7, .int x7)]) (sv_d k_Mo_friends 42 rfl) (by decide) rfl ?_
                  refine sv_iconst (pc := 83) (v := (0 : Int32)) (sv_d k_Mo_friends 43 rfl) (by decide) ?_
                  refine sv_istore (pc := 84) (lv' := [(11, .int (0 : Int32)), (10, .int (0 : Int32)), (9, .int (0 : Int32)), (8, .int (0 : Int32)), (0, sv_r E 187), (1, .int x1), (2, .int x2), (3, .int x3), (4, .int x4), (5, .int x5), (6, .int x6), (7, .int x7)]) (sv_d k_Mo_friends 44 rfl) (by decide) rfl ?_
                  refine sv_iconst (pc := 86) (v := (0 : Int32)) (sv_d k_Mo_friends 45 rfl) (by decide) ?_
                  refine sv_istore (pc := 87) (lv' := [(12, .int (0 : Int32)), (11, .int (0 : Int32)), (10, .int (0 : Int32)), (9, .int (0 : Int32)), (8, .int (0 : Int32)), (0, sv_r E 187), (1, .int x1), (2, .int x2), (3, .int x3), (4, .int x4), (5, .int x5), (6, .int x6), (7, .int x7)]) (sv_d k_Mo_friends 46 rfl) (by decide) rfl ?_
                  exact sv_loc [5, 6, 7, 8, 9, 10, 11, 12, 4, 3, 2, 1, 0] rfl (V_Mo_friends_b89 E d s ss_F x1 x2 x3 x4 x5 x6 x7 (0 : Int32) (0 : Int32) (0 : Int32) (0 : Int32) (0 : Int32))
                · refine sv_bipush (pc := 71) (v := (-2 : Int32)) (sv_d k_Mo_friends 35 rfl) (by decide) ?_
                  exact sv_ret (pc := 73) (sv_d k_Mo_friends 36 rfl) ⟨_, rfl, rfl⟩ rfl
          · refine sv_iconst (pc := 44) (v := (-1 : Int32)) (sv_d k_Mo_friends 22 rfl) (by decide) ?_
            exact sv_ret (pc := 45) (sv_d k_Mo_friends 23 rfl) ⟨_, rfl, rfl⟩ rfl
/-! Mo_body -/
abbrev m_Mo_body : sv_M := (yX12_body, cX12_body, 2, none)
def t_Mo_body : List (Nat × Instr × Nat) := [(0, .aload_n 0, 1), (1, .getfield 232, 3), (4, .bipush 20, 2), (6, .if_icmp .ge 13, 3), (9, .aload_n 0, 1), (10, .getfield 235, 3), (13, .aload_n 0, 1), (14, .getfield 232, 3), (17, .iload_n 1, 1), (18, .iastore, 1), (19, .aload_n 0, 1), (20, .dup, 1), (21, .getfield 232, 3), (24, .iconst 1, 1), (25, .iadd, 1), (26, .putfield 232, 3), (29, .return_, 1)]
theorem k_Mo_body : sv_tk m_Mo_body.2.1 t_Mo_body := by decide +kernel
theorem g_Mo_body : sv_G m_Mo_body 1 := ⟨by decide +kernel, sv_in 1890 (by decide +kernel) rfl, sv_in 103 (by decide +kernel) rfl, ⟨by decide, by decide⟩, by decide +kernel, by decide⟩
theorem in_Mo_body : Cond.instanceMethod m_Mo_body.1 ∈ sv_T := sv_in 1889 (by decide +kernel) rfl
theorem se_Mo_body : Cond.selects m_Mo_body.1.cls m_Mo_body.1 m_Mo_body.1 ∈ sv_T := sv_in 82 (by decide +kernel) rfl
def F_Mo_body (x1 : Int32) (s : sv_S) : Option (sv_S) :=
  if (20 : Int32) ≤ (s.1 187 73) then
    ss_let (ss_setI s 187 73 ((s.1 187 73) + (1 : Int32))) fun s1 =>
    some s1
  else
  if sv_ib (s.1 187 73) 20 = true then
    ss_let (ss_setI s 238 (s.1 187 73).toNatClampNeg x1) fun s2 =>
    ss_let (ss_setI s2 187 73 ((s2.1 187 73) + (1 : Int32))) fun s3 =>
    some s3
  else none
theorem V_Mo_body (E : sv_E) (d : Nat) (x1 : Int32) (s : sv_S) : sv_V E m_Mo_body (d + 0) ss_v 0 (lv_args 0 [sv_r E 187, .int x1]) [] (ss_e s) (F_Mo_body x1 s) := by
  show sv_V E m_Mo_body (d + 0) ss_v 0 [(0, sv_r E 187), (1, .int x1)] [] (ss_e s) _
  unfold F_Mo_body
  refine sv_aload_n (pc := 0) 0 (sv_d k_Mo_body 0 rfl) rfl rfl ?_
  refine sv_getf (pc := 1) 73 (sv_d k_Mo_body 1 rfl) cf12 (by decide) w1375 kd187 (ss_lt (by decide)) rfl ?_
  refine sv_bipush (pc := 4) (v := (20 : Int32)) (sv_d k_Mo_body 2 rfl) (by decide) ?_
  refine sv_icmp_ge (pc := 6) (tgt := 19) (sv_d k_Mo_body 3 rfl) (by decide) ?_ ?_
  · refine sv_aload_n (pc := 19) 0 (sv_d k_Mo_body 10 rfl) rfl rfl ?_
    refine sv_dup (pc := 20) (sv_d k_Mo_body 11 rfl) rfl ?_
    refine sv_getf (pc := 21) 73 (sv_d k_Mo_body 12 rfl) cf12 (by decide) w1375 kd187 (ss_lt (by decide)) rfl ?_
    refine sv_iconst (pc := 24) (v := (1 : Int32)) (sv_d k_Mo_body 13 rfl) (by decide) ?_
    refine sv_iadd (pc := 25) (sv_d k_Mo_body 14 rfl) ?_
    refine ss_putI (pc := 26) 73 (sv_d k_Mo_body 15 rfl) cf12 (by decide) rfl w1375 kd187 (ss_lt (by decide)) rfl rfl (fun _ => rfl) (ss_lets (fun s1 e_s1 => ?_))
    exact sv_retv (pc := 29) (sv_d k_Mo_body 16 rfl) rfl rfl
  · refine sv_aload_n (pc := 9) 0 (sv_d k_Mo_body 4 rfl) rfl rfl ?_
    refine sv_getf (pc := 10) 74 (sv_d k_Mo_body 5 rfl) cf12 (by decide) w1376 kd187 (ss_lt (by decide)) (lr_187_74 E _) ?_
    refine sv_aload_n (pc := 13) 0 (sv_d k_Mo_body 6 rfl) rfl rfl ?_
    refine sv_getf (pc := 14) 73 (sv_d k_Mo_body 7 rfl) cf12 (by decide) w1375 kd187 (ss_lt (by decide)) rfl ?_
    refine sv_iload_n (pc := 17) 1 (sv_d k_Mo_body 8 rfl) rfl rfl ?_
    refine ss_iast (pc := 18) (n := 20) (sv_d k_Mo_body 9 rfl) kd238 (by decide) (ss_lt (by decide)) rfl (ss_lets (fun s2 e_s2 => ?_))
    refine sv_aload_n (pc := 19) 0 (sv_d k_Mo_body 10 rfl) rfl rfl ?_
    refine sv_dup (pc := 20) (sv_d k_Mo_body 11 rfl) rfl ?_
    refine sv_getf (pc := 21) 73 (sv_d k_Mo_body 12 rfl) cf12 (by decide) w1375 kd187 (ss_lt (by decide)) rfl ?_
    refine sv_iconst (pc := 24) (v := (1 : Int32)) (sv_d k_Mo_body 13 rfl) (by decide) ?_
    refine sv_iadd (pc := 25) (sv_d k_Mo_body 14 rfl) ?_
    refine ss_putI (pc := 26) 73 (sv_d k_Mo_body 15 rfl) cf12 (by decide) rfl w1375 kd187 (ss_lt (by decide)) rfl rfl (fun _ => rfl) (ss_lets (fun s3 e_s3 => ?_))
    exact sv_retv (pc := 29) (sv_d k_Mo_body 16 rfl) rfl rfl
/-! Mo_plainCharges -/
abbrev m_Mo_plainCharges : sv_M := (yX12_plainCharges, cX12_plainCharges, 3, (some .int))
def t_Mo_plainCharges : List (Nat × Instr × Nat) := [(0, .aload_n 0, 1), (1, .bipush 10, 2), (3, .invokevirtual 443, 3), (6, .iload_n 2, 1), (7, .aload_n 0, 1), (8, .getfield 124, 3), (11, .iload_n 1, 1), (12, .iaload, 1), (13, .iadd, 1), (14, .ireturn, 1)]
theorem k_Mo_plainCharges : sv_tk m_Mo_plainCharges.2.1 t_Mo_plainCharges := by decide +kernel
theorem g_Mo_plainCharges : sv_G m_Mo_plainCharges 2 := ⟨by decide +kernel, sv_in 1894 (by decide +kernel) rfl, sv_in 103 (by decide +kernel) rfl, ⟨by decide, by decide⟩, by decide +kernel, by decide⟩
theorem in_Mo_plainCharges : Cond.instanceMethod m_Mo_plainCharges.1 ∈ sv_T := sv_in 1893 (by decide +kernel) rfl
theorem se_Mo_plainCharges : Cond.selects m_Mo_plainCharges.1.cls m_Mo_plainCharges.1 m_Mo_plainCharges.1 ∈ sv_T := sv_in 83 (by decide +kernel) rfl
def F_Mo_plainCharges (x1 : Int32) (x2 : Int32) (s : sv_S) : Option (Int32 × sv_S) :=
  (F_Mo_body (10 : Int32) s).bind fun r1 =>
  if sv_ib x1 60 = true then
    some (x2 + (r1.1 209 x1.toNatClampNeg), r1)
  else none
theorem V_Mo_plainCharges (E : sv_E) (d : Nat) (x1 : Int32) (x2 : Int32) (s : sv_S) : sv_V E m_Mo_plainCharges (d + 1) ss_i 0 (lv_args 0 [sv_r E 187, .int x1, .int x2]) [] (ss_e s) (F_Mo_plainCharges x1 x2 s) := by
  show sv_V E m_Mo_plainCharges (d + 1) ss_i 0 [(0, sv_r E 187), (1, .int x1), (2, .int x2)] [] (ss_e s) _
  unfold F_Mo_plainCharges
  refine sv_aload_n (pc := 0) 0 (sv_d k_Mo_plainCharges 0 rfl) rfl rfl ?_
  refine sv_bipush (pc := 1) (v := (10 : Int32)) (sv_d k_Mo_plainCharges 1 rfl) (by decide) ?_
  refine sv_callV (pc := 3) (ψ := ss_v) (As := [.int (10 : Int32)]) (rest := []) (c := 187) (sv_d k_Mo_plainCharges 2 rfl) g_Mo_body w1887 in_Mo_body se_Mo_body cf12 kd187 (ss_lt (by decide)) rfl (Nat.le_of_ble_eq_true rfl) (V_Mo_body E (d + 0) (10 : Int32) s) (Nat.le_of_ble_eq_true rfl) rfl (fun r1 => ?_)
  show sv_V E _ _ _ 6 _ [] (ss_e r1) _
  refine sv_iload_n (pc := 6) 2 (sv_d k_Mo_plainCharges 3 rfl) rfl rfl ?_
  refine sv_aload_n (pc := 7) 0 (sv_d k_Mo_plainCharges 4 rfl) rfl rfl ?_
  refine sv_getf (pc := 8) 37 (sv_d k_Mo_plainCharges 5 rfl) cf12 (by decide) w1339 kd187 (ss_lt (by decide)) (lr_187_37 E _) ?_
  refine sv_iload_n (pc := 11) 1 (sv_d k_Mo_plainCharges 6 rfl) rfl rfl ?_
  refine ss_iald (pc := 12) (n := 60) (sv_d k_Mo_plainCharges 7 rfl) kd209 (ss_lt (by decide)) rfl ?_
  refine sv_iadd (pc := 13) (sv_d k_Mo_plainCharges 8 rfl) ?_
  exact sv_ret (pc := 14) (sv_d k_Mo_plainCharges 9 rfl) ⟨_, rfl, rfl⟩ rfl
/-! Mo_chargesOf -/
abbrev m_Mo_chargesOf : sv_M := (yX12_chargesOf, cX12_chargesOf, 4, (some .int))
def t_Mo_chargesOf : List (Nat × Instr × Nat) := [(0, .iload_n 2, 1), (1, .iconst 2, 1), (2, .if_icmp .ne 18, 3), (5, .aload_n 0, 1), (6, .bipush 30, 2), (8, .invokevirtual 443, 3), (11, .aload_n 0, 1), (12, .iload_n 1, 1), (13, .iload_n 3, 1), (14, .invokevirtual 446, 3), (17, .iconst 1, 1), (18, .isub, 1), (19, .ireturn, 1), (20, .iload_n 2, 1), (21, .iconst 3, 1), (22, .if_icmp .ne 18, 3), (25, .aload_n 0, 1), (26, .bipush 40, 2), (28, .invokevirtual 443, 3), (31, .aload_n 0, 1), (32, .iload_n 1, 1), (33, .iload_n 3, 1), (34, .iconst 2, 1), (35, .imul, 1), (36, .invokevirtual 446, 3), (39, .ireturn, 1), (40, .iload_n 2, 1), (41, .bipush 6, 2), (43, .if_icmp .ne 11, 3), (46, .aload_n 0, 1), (47, .bipush 70, 2), (49, .invokevirtual 443, 3), (52, .iload_n 1, 1), (53, .ireturn, 1), (54, .aload_n 0, 1), (55, .iload_n 1, 1), (56, .iload_n 3, 1), (57, .invokevirtual 446, 3), (60, .ireturn, 1)]
theorem k_Mo_chargesOf : sv_tk m_Mo_chargesOf.2.1 t_Mo_chargesOf := by decide +kernel
theorem g_Mo_chargesOf : sv_G m_Mo_chargesOf 3 := ⟨by decide +kernel, sv_in 1886 (by decide +kernel) rfl, sv_in 103 (by decide +kernel) rfl, ⟨by decide, by decide⟩, by decide +kernel, by decide⟩
theorem in_Mo_chargesOf : Cond.instanceMethod m_Mo_chargesOf.1 ∈ sv_T := sv_in 1885 (by decide +kernel) rfl
theorem se_Mo_chargesOf : Cond.selects m_Mo_chargesOf.1.cls m_Mo_chargesOf.1 m_Mo_chargesOf.1 ∈ sv_T := sv_in 81 (by decide +kernel) rfl
def F_Mo_chargesOf (x1 : Int32) (x2 : Int32) (x3 : Int32) (s : sv_S) : Option (Int32 × sv_S) :=
  if x2 = (2 : Int32) then
    (F_Mo_body (30 : Int32) s).bind fun r5 =>
    (F_Mo_plainCharges x1 x3 r5).bind fun r6 =>
    some (r6.1 - (1 : Int32), r6.2)
  else
  if x2 = (3 : Int32) then
    (F_Mo_body (40 : Int32) s).bind fun r3 =>
    (F_Mo_plainCharges x1 (x3 * (2 : Int32)) r3).bind fun r4 =>
    some (r4.1, r4.2)
  else
  if x2 = (6 : Int32) then
    (F_Mo_body (70 : Int32) s).bind fun r2 =>
    some (x1, r2)
  else
  (F_Mo_plainCharges x1 x3 s).bind fun r1 =>
  some (r1.1, r1.2)
theorem V_Mo_chargesOf (E : sv_E) (d : Nat) (x1 : Int32) (x2 : Int32) (x3 : Int32) (s : sv_S) : sv_V E m_Mo_chargesOf (d + 2) ss_i 0 (lv_args 0 [sv_r E 187, .int x1, .int x2, .int x3]) [] (ss_e s) (F_Mo_chargesOf x1 x2 x3 s) := by
  show sv_V E m_Mo_chargesOf (d + 2) ss_i 0 [(0, sv_r E 187), (1, .int x1), (2, .int x2), (3, .int x3)] [] (ss_e s) _
  unfold F_Mo_chargesOf
  refine sv_iload_n (pc := 0) 2 (sv_d k_Mo_chargesOf 0 rfl) rfl rfl ?_
  refine sv_iconst (pc := 1) (v := (2 : Int32)) (sv_d k_Mo_chargesOf 1 rfl) (by decide) ?_
  refine sv_icmp_ne (pc := 2) (tgt := 20) (sv_d k_Mo_chargesOf 2 rfl) (by decide) ?_ ?_
  · refine sv_iload_n (pc := 20) 2 (sv_d k_Mo_chargesOf 13 rfl) rfl rfl ?_
    refine sv_iconst (pc := 21) (v := (3 : Int32)) (sv_d k_Mo_chargesOf 14 rfl) (by decide) ?_
    refine sv_icmp_ne (pc := 22) (tgt := 40) (sv_d k_Mo_chargesOf 15 rfl) (by decide) ?_ ?_
    · refine sv_iload_n (pc := 40) 2 (sv_d k_Mo_chargesOf 26 rfl) rfl rfl ?_
      refine sv_bipush (pc := 41) (v := (6 : Int32)) (sv_d k_Mo_chargesOf 27 rfl) (by decide) ?_
      refine sv_icmp_ne (pc := 43) (tgt := 54) (sv_d k_Mo_chargesOf 28 rfl) (by decide) ?_ ?_
      · refine sv_aload_n (pc := 54) 0 (sv_d k_Mo_chargesOf 34 rfl) rfl rfl ?_
        refine sv_iload_n (pc := 55) 1 (sv_d k_Mo_chargesOf 35 rfl) rfl rfl ?_
        refine sv_iload_n (pc := 56) 3 (sv_d k_Mo_chargesOf 36 rfl) rfl rfl ?_
        refine sv_callV (pc := 57) (ψ := ss_i) (As := [.int x1, .int x3]) (rest := []) (c := 187) (sv_d k_Mo_chargesOf 37 rfl) g_Mo_plainCharges w1891 in_Mo_plainCharges se_Mo_plainCharges cf12 kd187 (ss_lt (by decide)) rfl (Nat.le_of_ble_eq_true rfl) (V_Mo_plainCharges E (d + 0) x1 x3 s) (Nat.le_of_ble_eq_true rfl) rfl (fun r1 => ?_)
        show sv_V E _ _ _ 60 _ [.int r1.1] (ss_e r1.2) _
        exact sv_ret (pc := 60) (sv_d k_Mo_chargesOf 38 rfl) ⟨_, rfl, rfl⟩ rfl
      · refine sv_aload_n (pc := 46) 0 (sv_d k_Mo_chargesOf 29 rfl) rfl rfl ?_
        refine sv_bipush (pc := 47) (v := (70 : Int32)) (sv_d k_Mo_chargesOf 30 rfl) (by decide) ?_
        refine sv_callV (pc := 49) (ψ := ss_v) (As := [.int (70 : Int32)]) (rest := []) (c := 187) (sv_d k_Mo_chargesOf 31 rfl) g_Mo_body w1887 in_Mo_body se_Mo_body cf12 kd187 (ss_lt (by decide)) rfl (Nat.le_of_ble_eq_true rfl) (V_Mo_body E (d + 1) (70 : Int32) s) (Nat.le_of_ble_eq_true rfl) rfl (fun r2 => ?_)
        show sv_V E _ _ _ 52 _ [] (ss_e r2) _
        refine sv_iload_n (pc := 52) 1 (sv_d k_Mo_chargesOf 32 rfl) rfl rfl ?_
        exact sv_ret (pc := 53) (sv_d k_Mo_chargesOf 33 rfl) ⟨_, rfl, rfl⟩ rfl
    · refine sv_aload_n (pc := 25) 0 (sv_d k_Mo_chargesOf 16 rfl) rfl rfl ?_
      refine sv_bipush (pc := 26) (v := (40 : Int32)) (sv_d k_Mo_chargesOf 17 rfl) (by decide) ?_
      refine sv_callV (pc := 28) (ψ := ss_v) (As := [.int (40 : Int32)]) (rest := []) (c := 187) (sv_d k_Mo_chargesOf 18 rfl) g_Mo_body w1887 in_Mo_body se_Mo_body cf12 kd187 (ss_lt (by decide)) rfl (Nat.le_of_ble_eq_true rfl) (V_Mo_body E (d + 1) (40 : Int32) s) (Nat.le_of_ble_eq_true rfl) rfl (fun r3 => ?_)
      show sv_V E _ _ _ 31 _ [] (ss_e r3) _
      refine sv_aload_n (pc := 31) 0 (sv_d k_Mo_chargesOf 19 rfl) rfl rfl ?_
      refine sv_iload_n (pc := 32) 1 (sv_d k_Mo_chargesOf 20 rfl) rfl rfl ?_
      refine sv_iload_n (pc := 33) 3 (sv_d k_Mo_chargesOf 21 rfl) rfl rfl ?_
      refine sv_iconst (pc := 34) (v := (2 : Int32)) (sv_d k_Mo_chargesOf 22 rfl) (by decide) ?_
      refine sv_imul (pc := 35) (sv_d k_Mo_chargesOf 23 rfl) ?_
      refine sv_callV (pc := 36) (ψ := ss_i) (As := [.int x1, .int (x3 * (2 : Int32))]) (rest := []) (c := 187) (sv_d k_Mo_chargesOf 24 rfl) g_Mo_plainCharges w1891 in_Mo_plainCharges se_Mo_plainCharges cf12 kd187 (ss_lt (by decide)) rfl (Nat.le_of_ble_eq_true rfl) (V_Mo_plainCharges E (d + 0) x1 (x3 * (2 : Int32)) r3) (Nat.le_of_ble_eq_true rfl) rfl (fun r4 => ?_)
      show sv_V E _ _ _ 39 _ [.int r4.1] (ss_e r4.2) _
      exact sv_ret (pc := 39) (sv_d k_Mo_chargesOf 25 rfl) ⟨_, rfl, rfl⟩ rfl
  · refine sv_aload_n (pc := 5) 0 (sv_d k_Mo_chargesOf 3 rfl) rfl rfl ?_
    refine sv_bipush (pc := 6) (v := (30 : Int32)) (sv_d k_Mo_chargesOf 4 rfl) (by decide) ?_
    refine sv_callV (pc := 8) (ψ := ss_v) (As := [.int (30 : Int32)]) (rest := []) (c := 187) (sv_d k_Mo_chargesOf 5 rfl) g_Mo_body w1887 in_Mo_body se_Mo_body cf12 kd187 (ss_lt (by decide)) rfl (Nat.le_of_ble_eq_true rfl) (V_Mo_body E (d + 1) (30 : Int32) s) (Nat.le_of_ble_eq_true rfl) rfl (fun r5 => ?_)
    show sv_V E _ _ _ 11 _ [] (ss_e r5) _
    refine sv_aload_n (pc := 11) 0 (sv_d k_Mo_chargesOf 6 rfl) rfl rfl ?_
    refine sv_iload_n (pc := 12) 1 (sv_d k_Mo_chargesOf 7 rfl) rfl rfl ?_
    refine sv_iload_n (pc := 13) 3 (sv_d k_Mo_chargesOf 8 rfl) rfl rfl ?_
    refine sv_callV (pc := 14) (ψ := ss_i) (As := [.int x1, .int x3]) (rest := []) (c := 187) (sv_d k_Mo_chargesOf 9 rfl) g_Mo_plainCharges w1891 in_Mo_plainCharges se_Mo_plainCharges cf12 kd187 (ss_lt (by decide)) rfl (Nat.le_of_ble_eq_true rfl) (V_Mo_plainCharges E (d + 0) x1 x3 r5) (Nat.le_of_ble_eq_true rfl) rfl (fun r6 => ?_)
    show sv_V E _ _ _ 17 _ [.int r6.1] (ss_e r6.2) _
    refine sv_iconst (pc := 17) (v := (1 : Int32)) (sv_d k_Mo_chargesOf 10 rfl) (by decide) ?_
    refine sv_isub (pc := 18) (sv_d k_Mo_chargesOf 11 rfl) ?_
    exact sv_ret (pc := 19) (sv_d k_Mo_chargesOf 12 rfl) ⟨_, rfl, rfl⟩ rfl
/-! Mo_plainSplits -/
abbrev m_Mo_plainSplits : sv_M := (yX12_plainSplits, cX12_plainSplits, 4, (some .int))
def t_Mo_plainSplits : List (Nat × Instr × Nat) := [(0, .aload_n 0, 1), (1, .bipush 11, 2), (3, .invokevirtual 443, 3), (6, .aload_n 0, 1), (7, .iload_n 1, 1), (8, .iload_n 2, 1), (9, .iload_n 3, 1), (10, .invokevirtual 449, 3), (13, .aload_n 0, 1), (14, .getfield 115, 3), (17, .iload_n 1, 1), (18, .iaload, 1), (19, .isub, 1), (20, .ireturn, 1)]
theorem k_Mo_plainSplits : sv_tk m_Mo_plainSplits.2.1 t_Mo_plainSplits := by decide +kernel
theorem g_Mo_plainSplits : sv_G m_Mo_plainSplits 3 := ⟨by decide +kernel, sv_in 1906 (by decide +kernel) rfl, sv_in 103 (by decide +kernel) rfl, ⟨by decide, by decide⟩, by decide +kernel, by decide⟩
theorem in_Mo_plainSplits : Cond.instanceMethod m_Mo_plainSplits.1 ∈ sv_T := sv_in 1905 (by decide +kernel) rfl
theorem se_Mo_plainSplits : Cond.selects m_Mo_plainSplits.1.cls m_Mo_plainSplits.1 m_Mo_plainSplits.1 ∈ sv_T := sv_in 86 (by decide +kernel) rfl
def F_Mo_plainSplits (x1 : Int32) (x2 : Int32) (x3 : Int32) (s : sv_S) : Option (Int32 × sv_S) :=
  (F_Mo_body (11 : Int32) s).bind fun r1 =>
  (F_Mo_chargesOf x1 x2 x3 r1).bind fun r2 =>
  if sv_ib x1 60 = true then
    some (r2.1 - (r2.2.1 206 x1.toNatClampNeg), r2.2)
  else none
theorem V_Mo_plainSplits (E : sv_E) (d : Nat) (x1 : Int32) (x2 : Int32) (x3 : Int32) (s : sv_S) : sv_V E m_Mo_plainSplits (d + 3) ss_i 0 (lv_args 0 [sv_r E 187, .int x1, .int x2, .int x3]) [] (ss_e s) (F_Mo_plainSplits x1 x2 x3 s) := by
  show sv_V E m_Mo_plainSplits (d + 3) ss_i 0 [(0, sv_r E 187), (1, .int x1), (2, .int x2), (3, .int x3)] [] (ss_e s) _
  unfold F_Mo_plainSplits
  refine sv_aload_n (pc := 0) 0 (sv_d k_Mo_plainSplits 0 rfl) rfl rfl ?_
  refine sv_bipush (pc := 1) (v := (11 : Int32)) (sv_d k_Mo_plainSplits 1 rfl) (by decide) ?_
  refine sv_callV (pc := 3) (ψ := ss_v) (As := [.int (11 : Int32)]) (rest := []) (c := 187) (sv_d k_Mo_plainSplits 2 rfl) g_Mo_body w1887 in_Mo_body se_Mo_body cf12 kd187 (ss_lt (by decide)) rfl (Nat.le_of_ble_eq_true rfl) (V_Mo_body E (d + 2) (11 : Int32) s) (Nat.le_of_ble_eq_true rfl) rfl (fun r1 => ?_)
  show sv_V E _ _ _ 6 _ [] (ss_e r1) _
  refine sv_aload_n (pc := 6) 0 (sv_d k_Mo_plainSplits 3 rfl) rfl rfl ?_
  refine sv_iload_n (pc := 7) 1 (sv_d k_Mo_plainSplits 4 rfl) rfl rfl ?_
  refine sv_iload_n (pc := 8) 2 (sv_d k_Mo_plainSplits 5 rfl) rfl rfl ?_
  refine sv_iload_n (pc := 9) 3 (sv_d k_Mo_plainSplits 6 rfl) rfl rfl ?_
  refine sv_callV (pc := 10) (ψ := ss_i) (As := [.int x1, .int x2, .int x3]) (rest := []) (c := 187) (sv_d k_Mo_plainSplits 7 rfl) g_Mo_chargesOf w1883 in_Mo_chargesOf se_Mo_chargesOf cf12 kd187 (ss_lt (by decide)) rfl (Nat.le_of_ble_eq_true rfl) (V_Mo_chargesOf E (d + 0) x1 x2 x3 r1) (Nat.le_of_ble_eq_true rfl) rfl (fun r2 => ?_)
  show sv_V E _ _ _ 13 _ [.int r2.1] (ss_e r2.2) _
  refine sv_aload_n (pc := 13) 0 (sv_d k_Mo_plainSplits 8 rfl) rfl rfl ?_
  refine sv_getf (pc := 14) 34 (sv_d k_Mo_plainSplits 9 rfl) cf12 (by decide) w1336 kd187 (ss_lt (by decide)) (lr_187_34 E _) ?_
  refine sv_iload_n (pc := 17) 1 (sv_d k_Mo_plainSplits 10 rfl) rfl rfl ?_
  refine ss_iald (pc := 18) (n := 60) (sv_d k_Mo_plainSplits 11 rfl) kd206 (ss_lt (by decide)) rfl ?_
  refine sv_isub (pc := 19) (sv_d k_Mo_plainSplits 12 rfl) ?_
  exact sv_ret (pc := 20) (sv_d k_Mo_plainSplits 13 rfl) ⟨_, rfl, rfl⟩ rfl
/-! Mo_throughSplits -/
abbrev m_Mo_throughSplits : sv_M := (yX12_throughSplits, cX12_throughSplits, 4, (some .int))
def t_Mo_throughSplits : List (Nat × Instr × Nat) := [(0, .aload_n 0, 1), (1, .bipush 20, 2), (3, .invokevirtual 443, 3), (6, .aload_n 0, 1), (7, .iload_n 1, 1), (8, .iload_n 2, 1), (9, .iload_n 3, 1), (10, .invokevirtual 452, 3), (13, .iload_n 1, 1), (14, .ixor, 1), (15, .ireturn, 1)]
theorem k_Mo_throughSplits : sv_tk m_Mo_throughSplits.2.1 t_Mo_throughSplits := by decide +kernel
theorem g_Mo_throughSplits : sv_G m_Mo_throughSplits 3 := ⟨by decide +kernel, sv_in 1902 (by decide +kernel) rfl, sv_in 103 (by decide +kernel) rfl, ⟨by decide, by decide⟩, by decide +kernel, by decide⟩
theorem in_Mo_throughSplits : Cond.instanceMethod m_Mo_throughSplits.1 ∈ sv_T := sv_in 1901 (by decide +kernel) rfl
theorem se_Mo_throughSplits : Cond.selects m_Mo_throughSplits.1.cls m_Mo_throughSplits.1 m_Mo_throughSplits.1 ∈ sv_T := sv_in 85 (by decide +kernel) rfl
def F_Mo_throughSplits (x1 : Int32) (x2 : Int32) (x3 : Int32) (s : sv_S) : Option (Int32 × sv_S) :=
  (F_Mo_body (20 : Int32) s).bind fun r1 =>
  (F_Mo_plainSplits x1 x2 x3 r1).bind fun r2 =>
  some (r2.1 ^^^ x1, r2.2)
theorem V_Mo_throughSplits (E : sv_E) (d : Nat) (x1 : Int32) (x2 : Int32) (x3 : Int32) (s : sv_S) : sv_V E m_Mo_throughSplits (d + 4) ss_i 0 (lv_args 0 [sv_r E 187, .int x1, .int x2, .int x3]) [] (ss_e s) (F_Mo_throughSplits x1 x2 x3 s) := by
  show sv_V E m_Mo_throughSplits (d + 4) ss_i 0 [(0, sv_r E 187), (1, .int x1), (2, .int x2), (3, .int x3)] [] (ss_e s) _
  unfold F_Mo_throughSplits
  refine sv_aload_n (pc := 0) 0 (sv_d k_Mo_throughSplits 0 rfl) rfl rfl ?_
  refine sv_bipush (pc := 1) (v := (20 : Int32)) (sv_d k_Mo_throughSplits 1 rfl) (by decide) ?_
  refine sv_callV (pc := 3) (ψ := ss_v) (As := [.int (20 : Int32)]) (rest := []) (c := 187) (sv_d k_Mo_throughSplits 2 rfl) g_Mo_body w1887 in_Mo_body se_Mo_body cf12 kd187 (ss_lt (by decide)) rfl (Nat.le_of_ble_eq_true rfl) (V_Mo_body E (d + 3) (20 : Int32) s) (Nat.le_of_ble_eq_true rfl) rfl (fun r1 => ?_)
  show sv_V E _ _ _ 6 _ [] (ss_e r1) _
  refine sv_aload_n (pc := 6) 0 (sv_d k_Mo_throughSplits 3 rfl) rfl rfl ?_
  refine sv_iload_n (pc := 7) 1 (sv_d k_Mo_throughSplits 4 rfl) rfl rfl ?_
  refine sv_iload_n (pc := 8) 2 (sv_d k_Mo_throughSplits 5 rfl) rfl rfl ?_
  refine sv_iload_n (pc := 9) 3 (sv_d k_Mo_throughSplits 6 rfl) rfl rfl ?_
  refine sv_callV (pc := 10) (ψ := ss_i) (As := [.int x1, .int x2, .int x3]) (rest := []) (c := 187) (sv_d k_Mo_throughSplits 7 rfl) g_Mo_plainSplits w1903 in_Mo_plainSplits se_Mo_plainSplits cf12 kd187 (ss_lt (by decide)) rfl (Nat.le_of_ble_eq_true rfl) (V_Mo_plainSplits E (d + 0) x1 x2 x3 r1) (Nat.le_of_ble_eq_true rfl) rfl (fun r2 => ?_)
  show sv_V E _ _ _ 13 _ [.int r2.1] (ss_e r2.2) _
  refine sv_iload_n (pc := 13) 1 (sv_d k_Mo_throughSplits 8 rfl) rfl rfl ?_
  refine sv_ixor (pc := 14) (sv_d k_Mo_throughSplits 9 rfl) ?_
  exact sv_ret (pc := 15) (sv_d k_Mo_throughSplits 10 rfl) ⟨_, rfl, rfl⟩ rfl
/-! Mo_splitsOf -/
abbrev m_Mo_splitsOf : sv_M := (yX12_splitsOf, cX12_splitsOf, 4, (some .int))
def t_Mo_splitsOf : List (Nat × Instr × Nat) := [(0, .iload_n 2, 1), (1, .iconst 4, 1), (2, .if_icmp .ne 19, 3), (5, .aload_n 0, 1), (6, .bipush 51, 2), (8, .invokevirtual 443, 3), (11, .aload_n 0, 1), (12, .iload_n 1, 1), (13, .iload_n 2, 1), (14, .iload_n 3, 1), (15, .invokevirtual 455, 3), (18, .iconst 4, 1), (19, .iadd, 1), (20, .ireturn, 1), (21, .iload_n 2, 1), (22, .iconst 1, 1), (23, .if_icmp .ne 13, 3), (26, .aload_n 0, 1), (27, .iload_n 1, 1), (28, .iload_n 2, 1), (29, .iload_n 3, 1), (30, .invokevirtual 455, 3), (33, .goto 10, 3), (36, .aload_n 0, 1), (37, .iload_n 1, 1), (38, .iload_n 2, 1), (39, .iload_n 3, 1), (40, .invokevirtual 452, 3), (43, .ireturn, 1)]
theorem k_Mo_splitsOf : sv_tk m_Mo_splitsOf.2.1 t_Mo_splitsOf := by decide +kernel
theorem g_Mo_splitsOf : sv_G m_Mo_splitsOf 3 := ⟨by decide +kernel, sv_in 1898 (by decide +kernel) rfl, sv_in 103 (by decide +kernel) rfl, ⟨by decide, by decide⟩, by decide +kernel, by decide⟩
theorem in_Mo_splitsOf : Cond.instanceMethod m_Mo_splitsOf.1 ∈ sv_T := sv_in 1897 (by decide +kernel) rfl
theorem se_Mo_splitsOf : Cond.selects m_Mo_splitsOf.1.cls m_Mo_splitsOf.1 m_Mo_splitsOf.1 ∈ sv_T := sv_in 84 (by decide +kernel) rfl
def F_Mo_splitsOf (x1 : Int32) (x2 : Int32) (x3 : Int32) (s : sv_S) : Option (Int32 × sv_S) :=
  if x2 = (4 : Int32) then
    (F_Mo_body (51 : Int32) s).bind fun r3 =>
    (F_Mo_throughSplits x1 x2 x3 r3).bind fun r4 =>
    some (r4.1 + (4 : Int32), r4.2)
  else
  if x2 = (1 : Int32) then
    (F_Mo_throughSplits x1 x2 x3 s).bind fun r2 =>
    some (r2.1, r2.2)
  else
  (F_Mo_plainSplits x1 x2 x3 s).bind fun r1 =>
  some (r1.1, r1.2)
theorem V_Mo_splitsOf (E : sv_E) (d : Nat) (x1 : Int32) (x2 : Int32) (x3 : Int32) (s : sv_S) : sv_V E m_Mo_splitsOf (d + 5) ss_i 0 (lv_args 0 [sv_r E 187, .int x1, .int x2, .int x3]) [] (ss_e s) (F_Mo_splitsOf x1 x2 x3 s) := by
  show sv_V E m_Mo_splitsOf (d + 5) ss_i 0 [(0, sv_r E 187), (1, .int x1), (2, .int x2), (3, .int x3)] [] (ss_e s) _
  unfold F_Mo_splitsOf
  refine sv_iload_n (pc := 0) 2 (sv_d k_Mo_splitsOf 0 rfl) rfl rfl ?_
  refine sv_iconst (pc := 1) (v := (4 : Int32)) (sv_d k_Mo_splitsOf 1 rfl) (by decide) ?_
  refine sv_icmp_ne (pc := 2) (tgt := 21) (sv_d k_Mo_splitsOf 2 rfl) (by decide) ?_ ?_
  · refine sv_iload_n (pc := 21) 2 (sv_d k_Mo_splitsOf 14 rfl) rfl rfl ?_
    refine sv_iconst (pc := 22) (v := (1 : Int32)) (sv_d k_Mo_splitsOf 15 rfl) (by decide) ?_
    refine sv_icmp_ne (pc := 23) (tgt := 36) (sv_d k_Mo_splitsOf 16 rfl) (by decide) ?_ ?_
    · refine sv_aload_n (pc := 36) 0 (sv_d k_Mo_splitsOf 23 rfl) rfl rfl ?_
      refine sv_iload_n (pc := 37) 1 (sv_d k_Mo_splitsOf 24 rfl) rfl rfl ?_
      refine sv_iload_n (pc := 38) 2 (sv_d k_Mo_splitsOf 25 rfl) rfl rfl ?_
      refine sv_iload_n (pc := 39) 3 (sv_d k_Mo_splitsOf 26 rfl) rfl rfl ?_
      refine sv_callV (pc := 40) (ψ := ss_i) (As := [.int x1, .int x2, .int x3]) (rest := []) (c := 187) (sv_d k_Mo_splitsOf 27 rfl) g_Mo_plainSplits w1903 in_Mo_plainSplits se_Mo_plainSplits cf12 kd187 (ss_lt (by decide)) rfl (Nat.le_of_ble_eq_true rfl) (V_Mo_plainSplits E (d + 1) x1 x2 x3 s) (Nat.le_of_ble_eq_true rfl) rfl (fun r1 => ?_)
      show sv_V E _ _ _ 43 _ [.int r1.1] (ss_e r1.2) _
      exact sv_ret (pc := 43) (sv_d k_Mo_splitsOf 28 rfl) ⟨_, rfl, rfl⟩ rfl
    · refine sv_aload_n (pc := 26) 0 (sv_d k_Mo_splitsOf 17 rfl) rfl rfl ?_
      refine sv_iload_n (pc := 27) 1 (sv_d k_Mo_splitsOf 18 rfl) rfl rfl ?_
      refine sv_iload_n (pc := 28) 2 (sv_d k_Mo_splitsOf 19 rfl) rfl rfl ?_
      refine sv_iload_n (pc := 29) 3 (sv_d k_Mo_splitsOf 20 rfl) rfl rfl ?_
      refine sv_callV (pc := 30) (ψ := ss_i) (As := [.int x1, .int x2, .int x3]) (rest := []) (c := 187) (sv_d k_Mo_splitsOf 21 rfl) g_Mo_throughSplits w1899 in_Mo_throughSplits se_Mo_throughSplits cf12 kd187 (ss_lt (by decide)) rfl (Nat.le_of_ble_eq_true rfl) (V_Mo_throughSplits E (d + 0) x1 x2 x3 s) (Nat.le_of_ble_eq_true rfl) rfl (fun r2 => ?_)
      show sv_V E _ _ _ 33 _ [.int r2.1] (ss_e r2.2) _
      refine sv_goto (pc := 33) (tgt := 43) (sv_d k_Mo_splitsOf 22 rfl) (by decide) ?_
      exact sv_ret (pc := 43) (sv_d k_Mo_splitsOf 28 rfl) ⟨_, rfl, rfl⟩ rfl
  · refine sv_aload_n (pc := 5) 0 (sv_d k_Mo_splitsOf 3 rfl) rfl rfl ?_
    refine sv_bipush (pc := 6) (v := (51 : Int32)) (sv_d k_Mo_splitsOf 4 rfl) (by decide) ?_
    refine sv_callV (pc := 8) (ψ := ss_v) (As := [.int (51 : Int32)]) (rest := []) (c := 187) (sv_d k_Mo_splitsOf 5 rfl) g_Mo_body w1887 in_Mo_body se_Mo_body cf12 kd187 (ss_lt (by decide)) rfl (Nat.le_of_ble_eq_true rfl) (V_Mo_body E (d + 4) (51 : Int32) s) (Nat.le_of_ble_eq_true rfl) rfl (fun r3 => ?_)
    show sv_V E _ _ _ 11 _ [] (ss_e r3) _
    refine sv_aload_n (pc := 11) 0 (sv_d k_Mo_splitsOf 6 rfl) rfl rfl ?_
    refine sv_iload_n (pc := 12) 1 (sv_d k_Mo_splitsOf 7 rfl) rfl rfl ?_
    refine sv_iload_n (pc := 13) 2 (sv_d k_Mo_splitsOf 8 rfl) rfl rfl ?_
    refine sv_iload_n (pc := 14) 3 (sv_d k_Mo_splitsOf 9 rfl) rfl rfl ?_
    refine sv_callV (pc := 15) (ψ := ss_i) (As := [.int x1, .int x2, .int x3]) (rest := []) (c := 187) (sv_d k_Mo_splitsOf 10 rfl) g_Mo_throughSplits w1899 in_Mo_throughSplits se_Mo_throughSplits cf12 kd187 (ss_lt (by decide)) rfl (Nat.le_of_ble_eq_true rfl) (V_Mo_throughSplits E (d + 0) x1 x2 x3 r3) (Nat.le_of_ble_eq_true rfl) rfl (fun r4 => ?_)
    show sv_V E _ _ _ 18 _ [.int r4.1] (ss_e r4.2) _
    refine sv_iconst (pc := 18) (v := (4 : Int32)) (sv_d k_Mo_splitsOf 11 rfl) (by decide) ?_
    refine sv_iadd (pc := 19) (sv_d k_Mo_splitsOf 12 rfl) ?_
    exact sv_ret (pc := 20) (sv_d k_Mo_splitsOf 13 rfl) ⟨_, rfl, rfl⟩ rfl
/-! Mo_plainEnds -/
abbrev m_Mo_plainEnds : sv_M := (yX12_plainEnds, cX12_plainEnds, 4, (some .int))
def t_Mo_plainEnds : List (Nat × Instr × Nat) := [(0, .aload_n 0, 1), (1, .bipush 12, 2), (3, .invokevirtual 443, 3), (6, .aload_n 0, 1), (7, .iload_n 1, 1), (8, .iload_n 2, 1), (9, .iload_n 3, 1), (10, .invokevirtual 458, 3), (13, .iconst 2, 1), (14, .imul, 1), (15, .ireturn, 1)]
theorem k_Mo_plainEnds : sv_tk m_Mo_plainEnds.2.1 t_Mo_plainEnds := by decide +kernel
theorem g_Mo_plainEnds : sv_G m_Mo_plainEnds 3 := ⟨by decide +kernel, sv_in 1914 (by decide +kernel) rfl, sv_in 103 (by decide +kernel) rfl, ⟨by decide, by decide⟩, by decide +kernel, by decide⟩
theorem in_Mo_plainEnds : Cond.instanceMethod m_Mo_plainEnds.1 ∈ sv_T := sv_in 1913 (by decide +kernel) rfl
theorem se_Mo_plainEnds : Cond.selects m_Mo_plainEnds.1.cls m_Mo_plainEnds.1 m_Mo_plainEnds.1 ∈ sv_T := sv_in 88 (by decide +kernel) rfl
def F_Mo_plainEnds (x1 : Int32) (x2 : Int32) (x3 : Int32) (s : sv_S) : Option (Int32 × sv_S) :=
  (F_Mo_body (12 : Int32) s).bind fun r1 =>
  (F_Mo_splitsOf x1 x2 x3 r1).bind fun r2 =>
  some (r2.1 * (2 : Int32), r2.2)
theorem V_Mo_plainEnds (E : sv_E) (d : Nat) (x1 : Int32) (x2 : Int32) (x3 : Int32) (s : sv_S) : sv_V E m_Mo_plainEnds (d + 6) ss_i 0 (lv_args 0 [sv_r E 187, .int x1, .int x2, .int x3]) [] (ss_e s) (F_Mo_plainEnds x1 x2 x3 s) := by
  show sv_V E m_Mo_plainEnds (d + 6) ss_i 0 [(0, sv_r E 187), (1, .int x1), (2, .int x2), (3, .int x3)] [] (ss_e s) _
  unfold F_Mo_plainEnds
  refine sv_aload_n (pc := 0) 0 (sv_d k_Mo_plainEnds 0 rfl) rfl rfl ?_
  refine sv_bipush (pc := 1) (v := (12 : Int32)) (sv_d k_Mo_plainEnds 1 rfl) (by decide) ?_
  refine sv_callV (pc := 3) (ψ := ss_v) (As := [.int (12 : Int32)]) (rest := []) (c := 187) (sv_d k_Mo_plainEnds 2 rfl) g_Mo_body w1887 in_Mo_body se_Mo_body cf12 kd187 (ss_lt (by decide)) rfl (Nat.le_of_ble_eq_true rfl) (V_Mo_body E (d + 5) (12 : Int32) s) (Nat.le_of_ble_eq_true rfl) rfl (fun r1 => ?_)
  show sv_V E _ _ _ 6 _ [] (ss_e r1) _
  refine sv_aload_n (pc := 6) 0 (sv_d k_Mo_plainEnds 3 rfl) rfl rfl ?_
  refine sv_iload_n (pc := 7) 1 (sv_d k_Mo_plainEnds 4 rfl) rfl rfl ?_
  refine sv_iload_n (pc := 8) 2 (sv_d k_Mo_plainEnds 5 rfl) rfl rfl ?_
  refine sv_iload_n (pc := 9) 3 (sv_d k_Mo_plainEnds 6 rfl) rfl rfl ?_
  refine sv_callV (pc := 10) (ψ := ss_i) (As := [.int x1, .int x2, .int x3]) (rest := []) (c := 187) (sv_d k_Mo_plainEnds 7 rfl) g_Mo_splitsOf w1895 in_Mo_splitsOf se_Mo_splitsOf cf12 kd187 (ss_lt (by decide)) rfl (Nat.le_of_ble_eq_true rfl) (V_Mo_splitsOf E (d + 0) x1 x2 x3 r1) (Nat.le_of_ble_eq_true rfl) rfl (fun r2 => ?_)
  show sv_V E _ _ _ 13 _ [.int r2.1] (ss_e r2.2) _
  refine sv_iconst (pc := 13) (v := (2 : Int32)) (sv_d k_Mo_plainEnds 8 rfl) (by decide) ?_
  refine sv_imul (pc := 14) (sv_d k_Mo_plainEnds 9 rfl) ?_
  exact sv_ret (pc := 15) (sv_d k_Mo_plainEnds 10 rfl) ⟨_, rfl, rfl⟩ rfl
/-! Mo_endsOf -/
abbrev m_Mo_endsOf : sv_M := (yX12_endsOf, cX12_endsOf, 5, (some .int))
def t_Mo_endsOf : List (Nat × Instr × Nat) := [(0, .iload_n 2, 1), (1, .iconst 4, 1), (2, .if_icmp .ne 29, 3), (5, .aload_n 0, 1), (6, .bipush 50, 2), (8, .invokevirtual 443, 3), (11, .aload_n 0, 1), (12, .iload_n 1, 1), (13, .iload_n 2, 1), (14, .iload_n 3, 1), (15, .invokevirtual 461, 3), (18, .istore 4, 2), (20, .iload 4, 2), (22, .aload_n 0, 1), (23, .iload_n 1, 1), (24, .iload_n 2, 1), (25, .iconst 1, 1), (26, .invokevirtual 458, 3), (29, .iadd, 1), (30, .ireturn, 1), (31, .iload_n 2, 1), (32, .iconst 5, 1), (33, .if_icmp .ne 18, 3), (36, .aload_n 0, 1), (37, .bipush 60, 2), (39, .invokevirtual 443, 3), (42, .aload_n 0, 1), (43, .iload_n 1, 1), (44, .iload_n 2, 1), (45, .iload_n 3, 1), (46, .invokevirtual 461, 3), (49, .ineg, 1), (50, .ireturn, 1), (51, .iload_n 2, 1), (52, .bipush 6, 2), (54, .if_icmp .ne 29, 3), (57, .aload_n 0, 1), (58, .bipush 71, 2), (60, .invokevirtual 443, 3), (63, .aload_n 0, 1), (64, .iload_n 1, 1), (65, .iload_n 2, 1), (66, .iload_n 3, 1), (67, .invokevirtual 449, 3), (70, .istore 4, 2), (72, .iload 4, 2), (74, .aload_n 0, 1), (75, .iload_n 1, 1), (76, .iload_n 2, 1), (77, .iload_n 3, 1), (78, .invokevirtual 461, 3), (81, .iadd, 1), (82, .ireturn, 1), (83, .aload_n 0, 1), (84, .iload_n 1, 1), (85, .iload_n 2, 1), (86, .iload_n 3, 1), (87, .invokevirtual 461, 3), (90, .ireturn, 1)]
theorem k_Mo_endsOf : sv_tk m_Mo_endsOf.2.1 t_Mo_endsOf := by decide +kernel
theorem g_Mo_endsOf : sv_G m_Mo_endsOf 3 := ⟨by decide +kernel, sv_in 1910 (by decide +kernel) rfl, sv_in 103 (by decide +kernel) rfl, ⟨by decide, by decide⟩, by decide +kernel, by decide⟩
theorem in_Mo_endsOf : Cond.instanceMethod m_Mo_endsOf.1 ∈ sv_T := sv_in 1909 (by decide +kernel) rfl
theorem se_Mo_endsOf : Cond.selects m_Mo_endsOf.1.cls m_Mo_endsOf.1 m_Mo_endsOf.1 ∈ sv_T := sv_in 87 (by decide +kernel) rfl
def F_Mo_endsOf (x1 : Int32) (x2 : Int32) (x3 : Int32) (s : sv_S) : Option (Int32 × sv_S) :=
  if x2 = (4 : Int32) then
    (F_Mo_body (50 : Int32) s).bind fun r7 =>
    (F_Mo_plainEnds x1 x2 x3 r7).bind fun r8 =>
    (F_Mo_splitsOf x1 x2 (1 : Int32) r8.2).bind fun r9 =>
    some (r8.1 + r9.1, r9.2)
  else
  if x2 = (5 : Int32) then
    (F_Mo_body (60 : Int32) s).bind fun r5 =>
    (F_Mo_plainEnds x1 x2 x3 r5).bind fun r6 =>
    some (-r6.1, r6.2)
  else
  if x2 = (6 : Int32) then
    (F_Mo_body (71 : Int32) s).bind fun r2 =>
    (F_Mo_chargesOf x1 x2 x3 r2).bind fun r3 =>
    (F_Mo_plainEnds x1 x2 x3 r3.2).bind fun r4 =>
    some (r3.1 + r4.1, r4.2)
  else
  (F_Mo_plainEnds x1 x2 x3 s).bind fun r1 =>
  some (r1.1, r1.2)
theorem V_Mo_endsOf (E : sv_E) (d : Nat) (x1 : Int32) (x2 : Int32) (x3 : Int32) (s : sv_S) : sv_V E m_Mo_endsOf (d + 7) ss_i 0 (lv_args 0 [sv_r E 187, .int x1, .int x2, .int x3]) [] (ss_e s) (F_Mo_endsOf x1 x2 x3 s) := by
  show sv_V E m_Mo_endsOf (d + 7) ss_i 0 [(0, sv_r E 187), (1, .int x1), (2, .int x2), (3, .int x3)] [] (ss_e s) _
  unfold F_Mo_endsOf
  refine sv_iload_n (pc := 0) 2 (sv_d k_Mo_endsOf 0 rfl) rfl rfl ?_
  refine sv_iconst (pc := 1) (v := (4 : Int32)) (sv_d k_Mo_endsOf 1 rfl) (by decide) ?_
  refine sv_icmp_ne (pc := 2) (tgt := 31) (sv_d k_Mo_endsOf 2 rfl) (by decide) ?_ ?_
  · refine sv_iload_n (pc := 31) 2 (sv_d k_Mo_endsOf 20 rfl) rfl rfl ?_
    refine sv_iconst (pc := 32) (v := (5 : Int32)) (sv_d k_Mo_endsOf 21 rfl) (by decide) ?_
    refine sv_icmp_ne (pc := 33) (tgt := 51) (sv_d k_Mo_endsOf 22 rfl) (by decide) ?_ ?_
    · refine sv_iload_n (pc := 51) 2 (sv_d k_Mo_endsOf 33 rfl) rfl rfl ?_
      refine sv_bipush (pc := 52) (v := (6 : Int32)) (sv_d k_Mo_endsOf 34 rfl) (by decide) ?_
      refine sv_icmp_ne (pc := 54) (tgt := 83) (sv_d k_Mo_endsOf 35 rfl) (by decide) ?_ ?_
      · refine sv_aload_n (pc := 83) 0 (sv_d k_Mo_endsOf 53 rfl) rfl rfl ?_
        refine sv_iload_n (pc := 84) 1 (sv_d k_Mo_endsOf 54 rfl) rfl rfl ?_
        refine sv_iload_n (pc := 85) 2 (sv_d k_Mo_endsOf 55 rfl) rfl rfl ?_
        refine sv_iload_n (pc := 86) 3 (sv_d k_Mo_endsOf 56 rfl) rfl rfl ?_
        refine sv_callV (pc := 87) (ψ := ss_i) (As := [.int x1, .int x2, .int x3]) (rest := []) (c := 187) (sv_d k_Mo_endsOf 57 rfl) g_Mo_plainEnds w1911 in_Mo_plainEnds se_Mo_plainEnds cf12 kd187 (ss_lt (by decide)) rfl (Nat.le_of_ble_eq_true rfl) (V_Mo_plainEnds E (d + 0) x1 x2 x3 s) (Nat.le_of_ble_eq_true rfl) rfl (fun r1 => ?_)
        show sv_V E _ _ _ 90 _ [.int r1.1] (ss_e r1.2) _
        exact sv_ret (pc := 90) (sv_d k_Mo_endsOf 58 rfl) ⟨_, rfl, rfl⟩ rfl
      · refine sv_aload_n (pc := 57) 0 (sv_d k_Mo_endsOf 36 rfl) rfl rfl ?_
        refine sv_bipush (pc := 58) (v := (71 : Int32)) (sv_d k_Mo_endsOf 37 rfl) (by decide) ?_
        refine sv_callV (pc := 60) (ψ := ss_v) (As := [.int (71 : Int32)]) (rest := []) (c := 187) (sv_d k_Mo_endsOf 38 rfl) g_Mo_body w1887 in_Mo_body se_Mo_body cf12 kd187 (ss_lt (by decide)) rfl (Nat.le_of_ble_eq_true rfl) (V_Mo_body E (d + 6) (71 : Int32) s) (Nat.le_of_ble_eq_true rfl) rfl (fun r2 => ?_)
        show sv_V E _ _ _ 63 _ [] (ss_e r2) _
        refine sv_aload_n (pc := 63) 0 (sv_d k_Mo_endsOf 39 rfl) rfl rfl ?_
        refine sv_iload_n (pc := 64) 1 (sv_d k_Mo_endsOf 40 rfl) rfl rfl ?_
        refine sv_iload_n (pc := 65) 2 (sv_d k_Mo_endsOf 41 rfl) rfl rfl ?_
        refine sv_iload_n (pc := 66) 3 (sv_d k_Mo_endsOf 42 rfl) rfl rfl ?_
        refine sv_callV (pc := 67) (ψ := ss_i) (As := [.int x1, .int x2, .int x3]) (rest := []) (c := 187) (sv_d k_Mo_endsOf 43 rfl) g_Mo_chargesOf w1883 in_Mo_chargesOf se_Mo_chargesOf cf12 kd187 (ss_lt (by decide)) rfl (Nat.le_of_ble_eq_true rfl) (V_Mo_chargesOf E (d + 4) x1 x2 x3 r2) (Nat.le_of_ble_eq_true rfl) rfl (fun r3 => ?_)
        show sv_V E _ _ _ 70 _ [.int r3.1] (ss_e r3.2) _
        refine sv_istore (pc := 70) (lv' := [(4, .int r3.1), (0, sv_r E 187), (1, .int x1), (2, .int x2), (3, .int x3)]) (sv_d k_Mo_endsOf 44 rfl) (by decide) rfl ?_
        refine sv_iload (pc := 72) 0 (sv_d k_Mo_endsOf 45 rfl) rfl ?_
        refine sv_aload_n (pc := 74) 1 (sv_d k_Mo_endsOf 46 rfl) rfl rfl ?_
        refine sv_iload_n (pc := 75) 2 (sv_d k_Mo_endsOf 47 rfl) rfl rfl ?_
        refine sv_iload_n (pc := 76) 3 (sv_d k_Mo_endsOf 48 rfl) rfl rfl ?_
        refine sv_iload_n (pc := 77) 4 (sv_d k_Mo_endsOf 49 rfl) rfl rfl ?_
        refine sv_callV (pc := 78) (ψ := ss_i) (As := [.int x1, .int x2, .int x3]) (rest := [.int r3.1]) (c := 187) (sv_d k_Mo_endsOf 50 rfl) g_Mo_plainEnds w1911 in_Mo_plainEnds se_Mo_plainEnds cf12 kd187 (ss_lt (by decide)) rfl (Nat.le_of_ble_eq_true rfl) (V_Mo_plainEnds E (d + 0) x1 x2 x3 r3.2) (Nat.le_of_ble_eq_true rfl) rfl (fun r4 => ?_)
        show sv_V E _ _ _ 81 _ [.int r4.1, .int r3.1] (ss_e r4.2) _
        refine sv_iadd (pc := 81) (sv_d k_Mo_endsOf 51 rfl) ?_
        exact sv_ret (pc := 82) (sv_d k_Mo_endsOf 52 rfl) ⟨_, rfl, rfl⟩ rfl
    · refine sv_aload_n (pc := 36) 0 (sv_d k_Mo_endsOf 23 rfl) rfl rfl ?_
      refine sv_bipush (pc := 37) (v := (60 : Int32)) (sv_d k_Mo_endsOf 24 rfl) (by decide) ?_
      refine sv_callV (pc := 39) (ψ := ss_v) (As := [.int (60 : Int32)]) (rest := []) (c := 187) (sv_d k_Mo_endsOf 25 rfl) g_Mo_body w1887 in_Mo_body se_Mo_body cf12 kd187 (ss_lt (by decide)) rfl (Nat.le_of_ble_eq_true rfl) (V_Mo_body E (d + 6) (60 : Int32) s) (Nat.le_of_ble_eq_true rfl) rfl (fun r5 => ?_)
      show sv_V E _ _ _ 42 _ [] (ss_e r5) _
      refine sv_aload_n (pc := 42) 0 (sv_d k_Mo_endsOf 26 rfl) rfl rfl ?_
      refine sv_iload_n (pc := 43) 1 (sv_d k_Mo_endsOf 27 rfl) rfl rfl ?_
      refine sv_iload_n (pc := 44) 2 (sv_d k_Mo_endsOf 28 rfl) rfl rfl ?_
      refine sv_iload_n (pc := 45) 3 (sv_d k_Mo_endsOf 29 rfl) rfl rfl ?_
      refine sv_callV (pc := 46) (ψ := ss_i) (As := [.int x1, .int x2, .int x3]) (rest := []) (c := 187) (sv_d k_Mo_endsOf 30 rfl) g_Mo_plainEnds w1911 in_Mo_plainEnds se_Mo_plainEnds cf12 kd187 (ss_lt (by decide)) rfl (Nat.le_of_ble_eq_true rfl) (V_Mo_plainEnds E (d + 0) x1 x2 x3 r5) (Nat.le_of_ble_eq_true rfl) rfl (fun r6 => ?_)
      show sv_V E _ _ _ 49 _ [.int r6.1] (ss_e r6.2) _
      refine sv_ineg (pc := 49) (sv_d k_Mo_endsOf 31 rfl) ?_
      exact sv_ret (pc := 50) (sv_d k_Mo_endsOf 32 rfl) ⟨_, rfl, rfl⟩ rfl
  · refine sv_aload_n (pc := 5) 0 (sv_d k_Mo_endsOf 3 rfl) rfl rfl ?_
    refine sv_bipush (pc := 6) (v := (50 : Int32)) (sv_d k_Mo_endsOf 4 rfl) (by decide) ?_
    refine sv_callV (pc := 8) (ψ := ss_v) (As := [.int (50 : Int32)]) (rest := []) (c := 187) (sv_d k_Mo_endsOf 5 rfl) g_Mo_body w1887 in_Mo_body se_Mo_body cf12 kd187 (ss_lt (by decide)) rfl (Nat.le_of_ble_eq_true rfl) (V_Mo_body E (d + 6) (50 : Int32) s) (Nat.le_of_ble_eq_true rfl) rfl (fun r7 => ?_)
    show sv_V E _ _ _ 11 _ [] (ss_e r7) _
    refine sv_aload_n (pc := 11) 0 (sv_d k_Mo_endsOf 6 rfl) rfl rfl ?_
    refine sv_iload_n (pc := 12) 1 (sv_d k_Mo_endsOf 7 rfl) rfl rfl ?_
    refine sv_iload_n (pc := 13) 2 (sv_d k_Mo_endsOf 8 rfl) rfl rfl ?_
    refine sv_iload_n (pc := 14) 3 (sv_d k_Mo_endsOf 9 rfl) rfl rfl ?_
    refine sv_callV (pc := 15) (ψ := ss_i) (As := [.int x1, .int x2, .int x3]) (rest := []) (c := 187) (sv_d k_Mo_endsOf 10 rfl) g_Mo_plainEnds w1911 in_Mo_plainEnds se_Mo_plainEnds cf12 kd187 (ss_lt (by decide)) rfl (Nat.le_of_ble_eq_true rfl) (V_Mo_plainEnds E (d + 0) x1 x2 x3 r7) (Nat.le_of_ble_eq_true rfl) rfl (fun r8 => ?_)
    show sv_V E _ _ _ 18 _ [.int r8.1] (ss_e r8.2) _
    refine sv_istore (pc := 18) (lv' := [(4, .int r8.1), (0, sv_r E 187), (1, .int x1), (2, .int x2), (3, .int x3)]) (sv_d k_Mo_endsOf 11 rfl) (by decide) rfl ?_
    refine sv_iload (pc := 20) 0 (sv_d k_Mo_endsOf 12 rfl) rfl ?_
    refine sv_aload_n (pc := 22) 1 (sv_d k_Mo_endsOf 13 rfl) rfl rfl ?_
    refine sv_iload_n (pc := 23) 2 (sv_d k_Mo_endsOf 14 rfl) rfl rfl ?_
    refine sv_iload_n (pc := 24) 3 (sv_d k_Mo_endsOf 15 rfl) rfl rfl ?_
    refine sv_iconst (pc := 25) (v := (1 : Int32)) (sv_d k_Mo_endsOf 16 rfl) (by decide) ?_
    refine sv_callV (pc := 26) (ψ := ss_i) (As := [.int x1, .int x2, .int (1 : Int32)]) (rest := [.int r8.1]) (c := 187) (sv_d k_Mo_endsOf 17 rfl) g_Mo_splitsOf w1895 in_Mo_splitsOf se_Mo_splitsOf cf12 kd187 (ss_lt (by decide)) rfl (Nat.le_of_ble_eq_true rfl) (V_Mo_splitsOf E (d + 1) x1 x2 (1 : Int32) r8.2) (Nat.le_of_ble_eq_true rfl) rfl (fun r9 => ?_)
    show sv_V E _ _ _ 29 _ [.int r9.1, .int r8.1] (ss_e r9.2) _
    refine sv_iadd (pc := 29) (sv_d k_Mo_endsOf 18 rfl) ?_
    exact sv_ret (pc := 30) (sv_d k_Mo_endsOf 19 rfl) ⟨_, rfl, rfl⟩ rfl
/-! Mo_act -/
abbrev m_Mo_act : sv_M := (yX12_act, cX12_act, 5, (some .int))
def t_Mo_act : List (Nat × Instr × Nat) := [(0, .aload_n 0, 1), (1, .iconst 0, 1), (2, .putfield 232, 3), (5, .aload_n 0, 1), (6, .iload_n 1, 1), (7, .invokevirtual 372, 3), (10, .ifCond .eq 13, 3), (13, .aload_n 0, 1), (14, .iload_n 2, 1), (15, .iconst 0, 1), (16, .iconst 2, 1), (17, .invokevirtual 251, 3), (20, .ifCond .ne 5, 3), (23, .iconst 0, 1), (24, .ireturn, 1), (25, .aload_n 0, 1), (26, .iload_n 1, 1), (27, .invokevirtual 375, 3), (30, .istore 4, 2), (32, .iload_n 2, 1), (33, .ifCond .ne 14, 3), (36, .aload_n 0, 1), (37, .iload_n 1, 1), (38, .iload 4, 2), (40, .iload_n 3, 1), (41, .invokevirtual 449, 3), (44, .goto 27, 3), (47, .iload_n 2, 1), (48, .iconst 1, 1), (49, .if_icmp .ne 14, 3), (52, .aload_n 0, 1), (53, .iload_n 1, 1), (54, .iload 4, 2), (56, .iload_n 3, 1), (57, .invokevirtual 458, 3), (60, .goto 11, 3), (63, .aload_n 0, 1), (64, .iload_n 1, 1), (65, .iload 4, 2), (67, .iload_n 3, 1), (68, .invokevirtual 464, 3), (71, .ireturn, 1)]
theorem k_Mo_act : sv_tk m_Mo_act.2.1 t_Mo_act := by decide +kernel
theorem g_Mo_act : sv_G m_Mo_act 3 := ⟨by decide +kernel, sv_in 1882 (by decide +kernel) rfl, sv_in 103 (by decide +kernel) rfl, ⟨by decide, by decide⟩, by decide +kernel, by decide⟩
theorem in_Mo_act : Cond.instanceMethod m_Mo_act.1 ∈ sv_T := sv_in 1880 (by decide +kernel) rfl
theorem se_Mo_act : Cond.selects m_Mo_act.1.cls m_Mo_act.1 m_Mo_act.1 ∈ sv_T := sv_in 1881 (by decide +kernel) rfl
def F_Mo_act (x1 : Int32) (x2 : Int32) (x3 : Int32) (s : sv_S) : Option (Int32 × sv_S) :=
  ss_let (ss_setI s 187 73 (0 : Int32)) fun s1 =>
  (F_Mo_isRate x1 s1).bind fun r2 =>
  if r2 = 0 then
    some ((0 : Int32), s1)
  else
  (F_Mo_in x2 (0 : Int32) (2 : Int32) s1).bind fun r3 =>
  if r3 = 0 then
    some ((0 : Int32), s1)
  else
  (F_Mo_nowKind x1 s1).bind fun r4 =>
  if x2 = 0 then
    (F_Mo_chargesOf x1 r4 x3 s1).bind fun r7 =>
    some (r7.1, r7.2)
  else
  if x2 = (1 : Int32) then
    (F_Mo_splitsOf x1 r4 x3 s1).bind fun r6 =>
    some (r6.1, r6.2)
  else
  (F_Mo_endsOf x1 r4 x3 s1).bind fun r5 =>
  some (r5.1, r5.2)
theorem V_Mo_act (E : sv_E) (d : Nat) (x1 : Int32) (x2 : Int32) (x3 : Int32) (s : sv_S) : sv_V E m_Mo_act (d + 8) ss_i 0 (lv_args 0 [sv_r E 187, .int x1, .int x2, .int x3]) [] (ss_e s) (F_Mo_act x1 x2 x3 s) := by
  show sv_V E m_Mo_act (d + 8) ss_i 0 [(0, sv_r E 187), (1, .int x1), (2, .int x2), (3, .int x3)] [] (ss_e s) _
  unfold F_Mo_act
  refine sv_aload_n (pc := 0) 0 (sv_d k_Mo_act 0 rfl) rfl rfl ?_
  refine sv_iconst (pc := 1) (v := (0 : Int32)) (sv_d k_Mo_act 1 rfl) (by decide) ?_
  refine ss_putI (pc := 2) 73 (sv_d k_Mo_act 2 rfl) cf12 (by decide) rfl w1375 kd187 (ss_lt (by decide)) rfl rfl (fun _ => rfl) (ss_lets (fun s1 e_s1 => ?_))
  refine sv_aload_n (pc := 5) 0 (sv_d k_Mo_act 3 rfl) rfl rfl ?_
  refine sv_iload_n (pc := 6) 1 (sv_d k_Mo_act 4 rfl) rfl rfl ?_
  refine sv_callV (pc := 7) (ψ := (ss_pi s1)) (As := [.int x1]) (rest := []) (c := 187) (sv_d k_Mo_act 5 rfl) g_Mo_isRate w1706 in_Mo_isRate se_Mo_isRate cf12 kd187 (ss_lt (by decide)) rfl (Nat.le_of_ble_eq_true rfl) (V_Mo_isRate E (d + 6) x1 s1) (Nat.le_of_ble_eq_true rfl) rfl (fun r2 => ?_)
  show sv_V E _ _ _ 10 _ [.int r2] (ss_e s1) _
  refine sv_if_eq (pc := 10) (tgt := 23) (sv_d k_Mo_act 6 rfl) (by decide) ?_ ?_
  · refine sv_iconst (pc := 23) (v := (0 : Int32)) (sv_d k_Mo_act 13 rfl) (by decide) ?_
    exact sv_ret (pc := 24) (sv_d k_Mo_act 14 rfl) ⟨_, rfl, rfl⟩ rfl
  · refine sv_aload_n (pc := 13) 0 (sv_d k_Mo_act 7 rfl) rfl rfl ?_
    refine sv_iload_n (pc := 14) 2 (sv_d k_Mo_act 8 rfl) rfl rfl ?_
    refine sv_iconst (pc := 15) (v := (0 : Int32)) (sv_d k_Mo_act 9 rfl) (by decide) ?_
    refine sv_iconst (pc := 16) (v := (2 : Int32)) (sv_d k_Mo_act 10 rfl) (by decide) ?_
    refine sv_callV (pc := 17) (ψ := (ss_pi s1)) (As := [.int x2, .int (0 : Int32), .int (2 : Int32)]) (rest := []) (c := 187) (sv_d k_Mo_act 11 rfl) g_Mo_in w1545 in_Mo_in se_Mo_in cf12 kd187 (ss_lt (by decide)) rfl (Nat.le_of_ble_eq_true rfl) (V_Mo_in E (d + 7) x2 (0 : Int32) (2 : Int32) s1) (Nat.le_of_ble_eq_true rfl) rfl (fun r3 => ?_)
    show sv_V E _ _ _ 20 _ [.int r3] (ss_e s1) _
    refine sv_if_ne (pc := 20) (tgt := 25) (sv_d k_Mo_act 12 rfl) (by decide) ?_ ?_
    · refine sv_aload_n (pc := 25) 0 (sv_d k_Mo_act 15 rfl) rfl rfl ?_
      refine sv_iload_n (pc := 26) 1 (sv_d k_Mo_act 16 rfl) rfl rfl ?_
      refine sv_callV (pc := 27) (ψ := (ss_pi s1)) (As := [.int x1]) (rest := []) (c := 187) (sv_d k_Mo_act 17 rfl) g_Mo_nowKind w1710 in_Mo_nowKind se_Mo_nowKind cf12 kd187 (ss_lt (by decide)) rfl (Nat.le_of_ble_eq_true rfl) (V_Mo_nowKind E (d + 7) x1 s1) (Nat.le_of_ble_eq_true rfl) rfl (fun r4 => ?_)
      show sv_V E _ _ _ 30 _ [.int r4] (ss_e s1) _
      refine sv_istore (pc := 30) (lv' := [(4, .int r4), (0, sv_r E 187), (1, .int x1), (2, .int x2), (3, .int x3)]) (sv_d k_Mo_act 18 rfl) (by decide) rfl ?_
      refine sv_iload_n (pc := 32) 3 (sv_d k_Mo_act 19 rfl) rfl rfl ?_
      refine sv_if_ne (pc := 33) (tgt := 47) (sv_d k_Mo_act 20 rfl) (by decide) ?_ ?_
      · refine sv_iload_n (pc := 47) 3 (sv_d k_Mo_act 27 rfl) rfl rfl ?_
        refine sv_iconst (pc := 48) (v := (1 : Int32)) (sv_d k_Mo_act 28 rfl) (by decide) ?_
        refine sv_icmp_ne (pc := 49) (tgt := 63) (sv_d k_Mo_act 29 rfl) (by decide) ?_ ?_
        · refine sv_aload_n (pc := 63) 1 (sv_d k_Mo_act 36 rfl) rfl rfl ?_
          refine sv_iload_n (pc := 64) 2 (sv_d k_Mo_act 37 rfl) rfl rfl ?_
          refine sv_iload (pc := 65) 0 (sv_d k_Mo_act 38 rfl) rfl ?_
          refine sv_iload_n (pc := 67) 4 (sv_d k_Mo_act 39 rfl) rfl rfl ?_
          refine sv_callV (pc := 68) (ψ := ss_i) (As := [.int x1, .int r4, .int x3]) (rest := []) (c := 187) (sv_d k_Mo_act 40 rfl) g_Mo_endsOf w1907 in_Mo_endsOf se_Mo_endsOf cf12 kd187 (ss_lt (by decide)) rfl (Nat.le_of_ble_eq_true rfl) (V_Mo_endsOf E (d + 0) x1 r4 x3 s1) (Nat.le_of_ble_eq_true rfl) rfl (fun r5 => ?_)
          show sv_V E _ _ _ 71 _ [.int r5.1] (ss_e r5.2) _
          exact sv_ret (pc := 71) (sv_d k_Mo_act 41 rfl) ⟨_, rfl, rfl⟩ rfl
        · refine sv_aload_n (pc := 52) 1 (sv_d k_Mo_act 30 rfl) rfl rfl ?_
          refine sv_iload_n (pc := 53) 2 (sv_d k_Mo_act 31 rfl) rfl rfl ?_
          refine sv_iload (pc := 54) 0 (sv_d k_Mo_act 32 rfl) rfl ?_
          refine sv_iload_n (pc := 56) 4 (sv_d k_Mo_act 33 rfl) rfl rfl ?_
          refine sv_callV (pc := 57) (ψ := ss_i) (As := [.int x1, .int r4, .int x3]) (rest := []) (c := 187) (sv_d k_Mo_act 34 rfl) g_Mo_splitsOf w1895 in_Mo_splitsOf se_Mo_splitsOf cf12 kd187 (ss_lt (by decide)) rfl (Nat.le_of_ble_eq_true rfl) (V_Mo_splitsOf E (d + 2) x1 r4 x3 s1) (Nat.le_of_ble_eq_true rfl) rfl (fun r6 => ?_)
          show sv_V E _ _ _ 60 _ [.int r6.1] (ss_e r6.2) _
          refine sv_goto (pc := 60) (tgt := 71) (sv_d k_Mo_act 35 rfl) (by decide) ?_
          exact sv_ret (pc := 71) (sv_d k_Mo_act 41 rfl) ⟨_, rfl, rfl⟩ rfl
      · refine sv_aload_n (pc := 36) 1 (sv_d k_Mo_act 21 rfl) rfl rfl ?_
        refine sv_iload_n (pc := 37) 2 (sv_d k_Mo_act 22 rfl) rfl rfl ?_
        refine sv_iload (pc := 38) 0 (sv_d k_Mo_act 23 rfl) rfl ?_
        refine sv_iload_n (pc := 40) 4 (sv_d k_Mo_act 24 rfl) rfl rfl ?_
        refine sv_callV (pc := 41) (ψ := ss_i) (As := [.int x1, .int r4, .int x3]) (rest := []) (c := 187) (sv_d k_Mo_act 25 rfl) g_Mo_chargesOf w1883 in_Mo_chargesOf se_Mo_chargesOf cf12 kd187 (ss_lt (by decide)) rfl (Nat.le_of_ble_eq_true rfl) (V_Mo_chargesOf E (d + 5) x1 r4 x3 s1) (Nat.le_of_ble_eq_true rfl) rfl (fun r7 => ?_)
        show sv_V E _ _ _ 44 _ [.int r7.1] (ss_e r7.2) _
        refine sv_goto (pc := 44) (tgt := 71) (sv_d k_Mo_act 26 rfl) (by decide) ?_
        exact sv_ret (pc := 71) (sv_d k_Mo_act 41 rfl) ⟨_, rfl, rfl⟩ rfl
    · refine sv_iconst (pc := 23) (v := (0 : Int32)) (sv_d k_Mo_act 13 rfl) (by decide) ?_
      exact sv_ret (pc := 24) (sv_d k_Mo_act 14 rfl) ⟨_, rfl, rfl⟩ rfl
/-! Mo_trace -/
abbrev m_Mo_trace : sv_M := (yX12_trace, cX12_trace, 2, (some .int))
def t_Mo_trace : List (Nat × Instr × Nat) := [(0, .aload_n 0, 1), (1, .iload_n 1, 1), (2, .iconst 0, 1), (3, .bipush 19, 2), (5, .invokevirtual 251, 3), (8, .ifCond .eq 20, 3), (11, .iload_n 1, 1), (12, .aload_n 0, 1), (13, .getfield 232, 3), (16, .if_icmp .ge 12, 3), (19, .aload_n 0, 1), (20, .getfield 235, 3), (23, .iload_n 1, 1), (24, .iaload, 1), (25, .goto 4, 3), (28, .iconst (-1), 1), (29, .ireturn, 1)]
theorem k_Mo_trace : sv_tk m_Mo_trace.2.1 t_Mo_trace := by decide +kernel
theorem g_Mo_trace : sv_G m_Mo_trace 1 := ⟨by decide +kernel, sv_in 1918 (by decide +kernel) rfl, sv_in 103 (by decide +kernel) rfl, ⟨by decide, by decide⟩, by decide +kernel, by decide⟩
theorem in_Mo_trace : Cond.instanceMethod m_Mo_trace.1 ∈ sv_T := sv_in 1916 (by decide +kernel) rfl
theorem se_Mo_trace : Cond.selects m_Mo_trace.1.cls m_Mo_trace.1 m_Mo_trace.1 ∈ sv_T := sv_in 1917 (by decide +kernel) rfl
def F_Mo_trace (x1 : Int32) (s : sv_S) : Option (Int32) :=
  (F_Mo_in x1 (0 : Int32) (19 : Int32) s).bind fun r1 =>
  if r1 = 0 then
    some (-1 : Int32)
  else
  if (s.1 187 73) ≤ x1 then
    some (-1 : Int32)
  else
  if sv_ib x1 20 = true then
    some (s.1 238 x1.toNatClampNeg)
  else none
theorem V_Mo_trace (E : sv_E) (d : Nat) (x1 : Int32) (s : sv_S) : sv_V E m_Mo_trace (d + 1) (ss_pi s) 0 (lv_args 0 [sv_r E 187, .int x1]) [] (ss_e s) (F_Mo_trace x1 s) := by
  show sv_V E m_Mo_trace (d + 1) (ss_pi s) 0 [(0, sv_r E 187), (1, .int x1)] [] (ss_e s) _
  unfold F_Mo_trace
  refine sv_aload_n (pc := 0) 0 (sv_d k_Mo_trace 0 rfl) rfl rfl ?_
  refine sv_iload_n (pc := 1) 1 (sv_d k_Mo_trace 1 rfl) rfl rfl ?_
  refine sv_iconst (pc := 2) (v := (0 : Int32)) (sv_d k_Mo_trace 2 rfl) (by decide) ?_
  refine sv_bipush (pc := 3) (v := (19 : Int32)) (sv_d k_Mo_trace 3 rfl) (by decide) ?_
  refine sv_callV (pc := 5) (ψ := (ss_pi s)) (As := [.int x1, .int (0 : Int32), .int (19 : Int32)]) (rest := []) (c := 187) (sv_d k_Mo_trace 4 rfl) g_Mo_in w1545 in_Mo_in se_Mo_in cf12 kd187 (ss_lt (by decide)) rfl (Nat.le_of_ble_eq_true rfl) (V_Mo_in E (d + 0) x1 (0 : Int32) (19 : Int32) s) (Nat.le_of_ble_eq_true rfl) rfl (fun r1 => ?_)
  show sv_V E _ _ _ 8 _ [.int r1] (ss_e s) _
  refine sv_if_eq (pc := 8) (tgt := 28) (sv_d k_Mo_trace 5 rfl) (by decide) ?_ ?_
  · refine sv_iconst (pc := 28) (v := (-1 : Int32)) (sv_d k_Mo_trace 15 rfl) (by decide) ?_
    exact sv_ret (pc := 29) (sv_d k_Mo_trace 16 rfl) ⟨_, rfl, rfl⟩ rfl
  · refine sv_iload_n (pc := 11) 1 (sv_d k_Mo_trace 6 rfl) rfl rfl ?_
    refine sv_aload_n (pc := 12) 0 (sv_d k_Mo_trace 7 rfl) rfl rfl ?_
    refine sv_getf (pc := 13) 73 (sv_d k_Mo_trace 8 rfl) cf12 (by decide) w1375 kd187 (ss_lt (by decide)) rfl ?_
    refine sv_icmp_ge (pc := 16) (tgt := 28) (sv_d k_Mo_trace 9 rfl) (by decide) ?_ ?_
    · refine sv_iconst (pc := 28) (v := (-1 : Int32)) (sv_d k_Mo_trace 15 rfl) (by decide) ?_
      exact sv_ret (pc := 29) (sv_d k_Mo_trace 16 rfl) ⟨_, rfl, rfl⟩ rfl
    · refine sv_aload_n (pc := 19) 0 (sv_d k_Mo_trace 10 rfl) rfl rfl ?_
      refine sv_getf (pc := 20) 74 (sv_d k_Mo_trace 11 rfl) cf12 (by decide) w1376 kd187 (ss_lt (by decide)) (lr_187_74 E _) ?_
      refine sv_iload_n (pc := 23) 1 (sv_d k_Mo_trace 12 rfl) rfl rfl ?_
      refine ss_iald (pc := 24) (n := 20) (sv_d k_Mo_trace 13 rfl) kd238 (ss_lt (by decide)) rfl ?_
      refine sv_goto (pc := 25) (tgt := 29) (sv_d k_Mo_trace 14 rfl) (by decide) ?_
      exact sv_ret (pc := 29) (sv_d k_Mo_trace 16 rfl) ⟨_, rfl, rfl⟩ rfl
/-! Mo_taken -/
abbrev m_Mo_taken : sv_M := (yX12_taken, cX12_taken, 4, (some .int))
def t_Mo_taken : List (Nat × Instr × Nat) := [(0, .aload_n 0, 1), (1, .iload_n 2, 1), (2, .iconst 0, 1), (3, .bipush 6, 2), (5, .invokevirtual 251, 3), (8, .ifCond .ne 6, 3), (11, .bipush (-2), 2), (13, .ireturn, 1), (14, .aload_n 0, 1), (15, .iload_n 1, 1), (16, .invokevirtual 372, 3), (19, .ifCond .ne 6, 3), (22, .bipush (-11), 2), (24, .ireturn, 1), (25, .aload_n 0, 1), (26, .iload_n 1, 1), (27, .invokevirtual 375, 3), (30, .istore_n 3, 1), (31, .iload_n 2, 1), (32, .ifCond .eq 18, 3), (35, .iload_n 3, 1), (36, .iload_n 2, 1), (37, .if_icmp .eq 13, 3), (40, .iload_n 2, 1), (41, .iconst 1, 1), (42, .if_icmp .ne 12, 3), (45, .iload_n 3, 1), (46, .iconst 4, 1), (47, .if_icmp .ne 7, 3), (50, .iload_n 3, 1), (51, .goto 5, 3), (54, .bipush (-12), 2), (56, .ireturn, 1)]
theorem k_Mo_taken : sv_tk m_Mo_taken.2.1 t_Mo_taken := by decide +kernel
theorem g_Mo_taken : sv_G m_Mo_taken 2 := ⟨by decide +kernel, sv_in 1922 (by decide +kernel) rfl, sv_in 103 (by decide +kernel) rfl, ⟨by decide, by decide⟩, by decide +kernel, by decide⟩
theorem in_Mo_taken : Cond.instanceMethod m_Mo_taken.1 ∈ sv_T := sv_in 1920 (by decide +kernel) rfl
theorem se_Mo_taken : Cond.selects m_Mo_taken.1.cls m_Mo_taken.1 m_Mo_taken.1 ∈ sv_T := sv_in 1921 (by decide +kernel) rfl
def F_Mo_taken (x1 : Int32) (x2 : Int32) (s : sv_S) : Option (Int32) :=
  (F_Mo_in x2 (0 : Int32) (6 : Int32) s).bind fun r1 =>
  if r1 = 0 then
    some (-2 : Int32)
  else
  (F_Mo_isRate x1 s).bind fun r2 =>
  if r2 = 0 then
    some (-11 : Int32)
  else
  (F_Mo_nowKind x1 s).bind fun r3 =>
  if x2 = 0 then
    some r3
  else
  if r3 = x2 then
    some r3
  else
  if x2 = (1 : Int32) then
    if r3 = (4 : Int32) then
      some r3
    else
    some (-12 : Int32)
  else
  some (-12 : Int32)
theorem V_Mo_taken (E : sv_E) (d : Nat) (x1 : Int32) (x2 : Int32) (s : sv_S) : sv_V E m_Mo_taken (d + 2) (ss_pi s) 0 (lv_args 0 [sv_r E 187, .int x1, .int x2]) [] (ss_e s) (F_Mo_taken x1 x2 s) := by
  show sv_V E m_Mo_taken (d + 2) (ss_pi s) 0 [(0, sv_r E 187), (1, .int x1), (2, .int x2)] [] (ss_e s) _
  unfold F_Mo_taken
  refine sv_aload_n (pc := 0) 0 (sv_d k_Mo_taken 0 rfl) rfl rfl ?_
  refine sv_iload_n (pc := 1) 2 (sv_d k_Mo_taken 1 rfl) rfl rfl ?_
  refine sv_iconst (pc := 2) (v := (0 : Int32)) (sv_d k_Mo_taken 2 rfl) (by decide) ?_
  refine sv_bipush (pc := 3) (v := (6 : Int32)) (sv_d k_Mo_taken 3 rfl) (by decide) ?_
  refine sv_callV (pc := 5) (ψ := (ss_pi s)) (As := [.int x2, .int (0 : Int32), .int (6 : Int32)]) (rest := []) (c := 187) (sv_d k_Mo_taken 4 rfl) g_Mo_in w1545 in_Mo_in se_Mo_in cf12 kd187 (ss_lt (by decide)) rfl (Nat.le_of_ble_eq_true rfl) (V_Mo_in E (d + 1) x2 (0 : Int32) (6 : Int32) s) (Nat.le_of_ble_eq_true rfl) rfl (fun r1 => ?_)
  show sv_V E _ _ _ 8 _ [.int r1] (ss_e s) _
  refine sv_if_ne (pc := 8) (tgt := 14) (sv_d k_Mo_taken 5 rfl) (by decide) ?_ ?_
  · refine sv_aload_n (pc := 14) 0 (sv_d k_Mo_taken 8 rfl) rfl rfl ?_
    refine sv_iload_n (pc := 15) 1 (sv_d k_Mo_taken 9 rfl) rfl rfl ?_
    refine sv_callV (pc := 16) (ψ := (ss_pi s)) (As := [.int x1]) (rest := []) (c := 187) (sv_d k_Mo_taken 10 rfl) g_Mo_isRate w1706 in_Mo_isRate se_Mo_isRate cf12 kd187 (ss_lt (by decide)) rfl (Nat.le_of_ble_eq_true rfl) (V_Mo_isRate E (d + 0) x1 s) (Nat.le_of_ble_eq_true rfl) rfl (fun r2 => ?_)
    show sv_V E _ _ _ 19 _ [.int r2] (ss_e s) _
    refine sv_if_ne (pc := 19) (tgt := 25) (sv_d k_Mo_taken 11 rfl) (by decide) ?_ ?_
    · refine sv_aload_n (pc := 25) 0 (sv_d k_Mo_taken 14 rfl) rfl rfl ?_
      refine sv_iload_n (pc := 26) 1 (sv_d k_Mo_taken 15 rfl) rfl rfl ?_
      refine sv_callV (pc := 27) (ψ := (ss_pi s)) (As := [.int x1]) (rest := []) (c := 187) (sv_d k_Mo_taken 16 rfl) g_Mo_nowKind w1710 in_Mo_nowKind se_Mo_nowKind cf12 kd187 (ss_lt (by decide)) rfl (Nat.le_of_ble_eq_true rfl) (V_Mo_nowKind E (d + 1) x1 s) (Nat.le_of_ble_eq_true rfl) rfl (fun r3 => ?_)
      show sv_V E _ _ _ 30 _ [.int r3] (ss_e s) _
      refine sv_istore_n (pc := 30) (lv' := [(3, .int r3), (0, sv_r E 187), (1, .int x1), (2, .int x2)]) (sv_d k_Mo_taken 17 rfl) rfl (by decide) rfl ?_
      refine sv_iload_n (pc := 31) 3 (sv_d k_Mo_taken 18 rfl) rfl rfl ?_
      refine sv_if_eq (pc := 32) (tgt := 50) (sv_d k_Mo_taken 19 rfl) (by decide) ?_ ?_
      · refine sv_iload_n (pc := 50) 0 (sv_d k_Mo_taken 29 rfl) rfl rfl ?_
        refine sv_goto (pc := 51) (tgt := 56) (sv_d k_Mo_taken 30 rfl) (by decide) ?_
        exact sv_ret (pc := 56) (sv_d k_Mo_taken 32 rfl) ⟨_, rfl, rfl⟩ rfl
      · refine sv_iload_n (pc := 35) 0 (sv_d k_Mo_taken 20 rfl) rfl rfl ?_
        refine sv_iload_n (pc := 36) 3 (sv_d k_Mo_taken 21 rfl) rfl rfl ?_
        refine sv_icmp_eq (pc := 37) (tgt := 50) (sv_d k_Mo_taken 22 rfl) (by decide) ?_ ?_
        · refine sv_iload_n (pc := 50) 0 (sv_d k_Mo_taken 29 rfl) rfl rfl ?_
          refine sv_goto (pc := 51) (tgt := 56) (sv_d k_Mo_taken 30 rfl) (by decide) ?_
          exact sv_ret (pc := 56) (sv_d k_Mo_taken 32 rfl) ⟨_, rfl, rfl⟩ rfl
        · refine sv_iload_n (pc := 40) 3 (sv_d k_Mo_taken 23 rfl) rfl rfl ?_
          refine sv_iconst (pc := 41) (v := (1 : Int32)) (sv_d k_Mo_taken 24 rfl) (by decide) ?_
          refine sv_icmp_ne (pc := 42) (tgt := 54) (sv_d k_Mo_taken 25 rfl) (by decide) ?_ ?_
          · refine sv_bipush (pc := 54) (v := (-12 : Int32)) (sv_d k_Mo_taken 31 rfl) (by decide) ?_
            exact sv_ret (pc := 56) (sv_d k_Mo_taken 32 rfl) ⟨_, rfl, rfl⟩ rfl
          · refine sv_iload_n (pc := 45) 0 (sv_d k_Mo_taken 26 rfl) rfl rfl ?_
            refine sv_iconst (pc := 46) (v := (4 : Int32)) (sv_d k_Mo_taken 27 rfl) (by decide) ?_
            refine sv_icmp_ne (pc := 47) (tgt := 54) (sv_d k_Mo_taken 28 rfl) (by decide) ?_ ?_
            · refine sv_bipush (pc := 54) (v := (-12 : Int32)) (sv_d k_Mo_taken 31 rfl) (by decide) ?_
              exact sv_ret (pc := 56) (sv_d k_Mo_taken 32 rfl) ⟨_, rfl, rfl⟩ rfl
            · refine sv_iload_n (pc := 50) 0 (sv_d k_Mo_taken 29 rfl) rfl rfl ?_
              refine sv_goto (pc := 51) (tgt := 56) (sv_d k_Mo_taken 30 rfl) (by decide) ?_
              exact sv_ret (pc := 56) (sv_d k_Mo_taken 32 rfl) ⟨_, rfl, rfl⟩ rfl
    · refine sv_bipush (pc := 22) (v := (-11 : Int32)) (sv_d k_Mo_taken 12 rfl) (by decide) ?_
      exact sv_ret (pc := 24) (sv_d k_Mo_taken 13 rfl) ⟨_, rfl, rfl⟩ rfl
  · refine sv_bipush (pc := 11) (v := (-2 : Int32)) (sv_d k_Mo_taken 6 rfl) (by decide) ?_
    exact sv_ret (pc := 13) (sv_d k_Mo_taken 7 rfl) ⟨_, rfl, rfl⟩ rfl
/-! Mo_count -/
abbrev m_Mo_count : sv_M := (yX12_count, cX12_count, 2, (some .int))
def t_Mo_count : List (Nat × Instr × Nat) := [(0, .iload_n 1, 1), (1, .tableswitch (96) (0) (8) #[51, 56, 61, 66, 71, 76, 81, 86, 91], 51), (52, .aload_n 0, 1), (53, .getfield 7, 3), (56, .ireturn, 1), (57, .aload_n 0, 1), (58, .getfield 13, 3), (61, .ireturn, 1), (62, .aload_n 0, 1), (63, .getfield 41, 3), (66, .ireturn, 1), (67, .aload_n 0, 1), (68, .getfield 109, 3), (71, .ireturn, 1), (72, .aload_n 0, 1), (73, .getfield 163, 3), (76, .ireturn, 1), (77, .aload_n 0, 1), (78, .getfield 202, 3), (81, .ireturn, 1), (82, .aload_n 0, 1), (83, .getfield 220, 3), (86, .ireturn, 1), (87, .aload_n 0, 1), (88, .getfield 44, 3), (91, .ireturn, 1), (92, .aload_n 0, 1), (93, .getfield 232, 3), (96, .ireturn, 1), (97, .bipush (-2), 2), (99, .ireturn, 1)]
theorem k_Mo_count : sv_tk m_Mo_count.2.1 t_Mo_count := by decide +kernel
theorem g_Mo_count : sv_G m_Mo_count 1 := ⟨by decide +kernel, sv_in 1926 (by decide +kernel) rfl, sv_in 103 (by decide +kernel) rfl, ⟨by decide, by decide⟩, by decide +kernel, by decide⟩
theorem in_Mo_count : Cond.instanceMethod m_Mo_count.1 ∈ sv_T := sv_in 1924 (by decide +kernel) rfl
theorem se_Mo_count : Cond.selects m_Mo_count.1.cls m_Mo_count.1 m_Mo_count.1 ∈ sv_T := sv_in 1925 (by decide +kernel) rfl
def F_Mo_count (x1 : Int32) (s : sv_S) : Option (Int32) :=
  if x1 = (0 : Int32) then
    some (s.1 187 0)
  else if x1 = (1 : Int32) then
    some (s.1 187 1)
  else if x1 = (2 : Int32) then
    some (s.1 187 10)
  else if x1 = (3 : Int32) then
    some (s.1 187 32)
  else if x1 = (4 : Int32) then
    some (s.1 187 50)
  else if x1 = (5 : Int32) then
    some (s.1 187 63)
  else if x1 = (6 : Int32) then
    some (s.1 187 69)
  else if x1 = (7 : Int32) then
    some (s.1 187 11)
  else if x1 = (8 : Int32) then
    some (s.1 187 73)
  else 
  some (-2 : Int32)
theorem V_Mo_count (E : sv_E) (d : Nat) (x1 : Int32) (s : sv_S) : sv_V E m_Mo_count (d + 0) (ss_pi s) 0 (lv_args 0 [sv_r E 187, .int x1]) [] (ss_e s) (F_Mo_count x1 s) := by
  show sv_V E m_Mo_count (d + 0) (ss_pi s) 0 [(0, sv_r E 187), (1, .int x1)] [] (ss_e s) _
  unfold F_Mo_count
  refine sv_iload_n (pc := 0) 1 (sv_d k_Mo_count 0 rfl) rfl rfl ?_
  refine ss_dec (fun hh1 => ?_) (fun hh1 => ?_)
  · refine sv_tab (pc := 1) (tgt := 52) (sv_d k_Mo_count 1 rfl) (0 : Int32) hh1 (by decide) (by decide) rfl (by decide) ?_
    refine sv_aload_n (pc := 52) 0 (sv_d k_Mo_count 2 rfl) rfl rfl ?_
    refine sv_getf (pc := 53) 0 (sv_d k_Mo_count 3 rfl) cf12 (by decide) w1302 kd187 (ss_lt (by decide)) rfl ?_
    exact sv_ret (pc := 56) (sv_d k_Mo_count 4 rfl) ⟨_, rfl, rfl⟩ rfl
  · refine ss_dec (fun hh2 => ?_) (fun hh2 => ?_)
    · refine sv_tab (pc := 1) (tgt := 57) (sv_d k_Mo_count 1 rfl) (1 : Int32) hh2 (by decide) (by decide) rfl (by decide) ?_
      refine sv_aload_n (pc := 57) 0 (sv_d k_Mo_count 5 rfl) rfl rfl ?_
      refine sv_getf (pc := 58) 1 (sv_d k_Mo_count 6 rfl) cf12 (by decide) w1303 kd187 (ss_lt (by decide)) rfl ?_
      exact sv_ret (pc := 61) (sv_d k_Mo_count 7 rfl) ⟨_, rfl, rfl⟩ rfl
    · refine ss_dec (fun hh3 => ?_) (fun hh3 => ?_)
      · refine sv_tab (pc := 1) (tgt := 62) (sv_d k_Mo_count 1 rfl) (2 : Int32) hh3 (by decide) (by decide) rfl (by decide) ?_
        refine sv_aload_n (pc := 62) 0 (sv_d k_Mo_count 8 rfl) rfl rfl ?_
        refine sv_getf (pc := 63) 10 (sv_d k_Mo_count 9 rfl) cf12 (by decide) w1312 kd187 (ss_lt (by decide)) rfl ?_
        exact sv_ret (pc := 66) (sv_d k_Mo_count 10 rfl) ⟨_, rfl, rfl⟩ rfl
      · refine ss_dec (fun hh4 => ?_) (fun hh4 => ?_)
        · refine sv_tab (pc := 1) (tgt := 67) (sv_d k_Mo_count 1 rfl) (3 : Int32) hh4 (by decide) (by decide) rfl (by decide) ?_
          refine sv_aload_n (pc := 67) 0 (sv_d k_Mo_count 11 rfl) rfl rfl ?_
          refine sv_getf (pc := 68) 32 (sv_d k_Mo_count 12 rfl) cf12 (by decide) w1334 kd187 (ss_lt (by decide)) rfl ?_
          exact sv_ret (pc := 71) (sv_d k_Mo_count 13 rfl) ⟨_, rfl, rfl⟩ rfl
        · refine ss_dec (fun hh5 => ?_) (fun hh5 => ?_)
          · refine sv_tab (pc := 1) (tgt := 72) (sv_d k_Mo_count 1 rfl) (4 : Int32) hh5 (by decide) (by decide) rfl (by decide) ?_
            refine sv_aload_n (pc := 72) 0 (sv_d k_Mo_count 14 rfl) rfl rfl ?_
            refine sv_getf (pc := 73) 50 (sv_d k_Mo_count 15 rfl) cf12 (by decide) w1352 kd187 (ss_lt (by decide)) rfl ?_
            exact sv_ret (pc := 76) (sv_d k_Mo_count 16 rfl) ⟨_, rfl, rfl⟩ rfl
          · refine ss_dec (fun hh6 => ?_) (fun hh6 => ?_)
            · refine sv_tab (pc := 1) (tgt := 77) (sv_d k_Mo_count 1 rfl) (5 : Int32) hh6 (by decide) (by decide) rfl (by decide) ?_
              refine sv_aload_n (pc := 77) 0 (sv_d k_Mo_count 17 rfl) rfl rfl ?_
              refine sv_getf (pc := 78) 63 (sv_d k_Mo_count 18 rfl) cf12 (by decide) w1365 kd187 (ss_lt (by decide)) rfl ?_
              exact sv_ret (pc := 81) (sv_d k_Mo_count 19 rfl) ⟨_, rfl, rfl⟩ rfl
            · refine ss_dec (fun hh7 => ?_) (fun hh7 => ?_)
              · refine sv_tab (pc := 1) (tgt := 82) (sv_d k_Mo_count 1 rfl) (6 : Int32) hh7 (by decide) (by decide) rfl (by decide) ?_
                refine sv_aload_n (pc := 82) 0 (sv_d k_Mo_count 20 rfl) rfl rfl ?_
                refine sv_getf (pc := 83) 69 (sv_d k_Mo_count 21 rfl) cf12 (by decide) w1371 kd187 (ss_lt (by decide)) rfl ?_
                exact sv_ret (pc := 86) (sv_d k_Mo_count 22 rfl) ⟨_, rfl, rfl⟩ rfl
              · refine ss_dec (fun hh8 => ?_) (fun hh8 => ?_)
                · refine sv_tab (pc := 1) (tgt := 87) (sv_d k_Mo_count 1 rfl) (7 : Int32) hh8 (by decide) (by decide) rfl (by decide) ?_
                  refine sv_aload_n (pc := 87) 0 (sv_d k_Mo_count 23 rfl) rfl rfl ?_
                  refine sv_getf (pc := 88) 11 (sv_d k_Mo_count 24 rfl) cf12 (by decide) w1313 kd187 (ss_lt (by decide)) rfl ?_
                  exact sv_ret (pc := 91) (sv_d k_Mo_count 25 rfl) ⟨_, rfl, rfl⟩ rfl
                · refine ss_dec (fun hh9 => ?_) (fun hh9 => ?_)
                  · refine sv_tab (pc := 1) (tgt := 92) (sv_d k_Mo_count 1 rfl) (8 : Int32) hh9 (by decide) (by decide) rfl (by decide) ?_
                    refine sv_aload_n (pc := 92) 0 (sv_d k_Mo_count 26 rfl) rfl rfl ?_
                    refine sv_getf (pc := 93) 73 (sv_d k_Mo_count 27 rfl) cf12 (by decide) w1375 kd187 (ss_lt (by decide)) rfl ?_
                    exact sv_ret (pc := 96) (sv_d k_Mo_count 28 rfl) ⟨_, rfl, rfl⟩ rfl
                  · refine sv_tabD (pc := 1) (tgt := 97) (sv_d k_Mo_count 1 rfl) (by rcases Int.lt_or_le (Int32.toInt x1) (0) with q | q; exact Or.inl q; have q := (sv_nlt (sv_nlt (sv_nlt (sv_nlt (sv_nlt (sv_nlt (sv_nlt (sv_nlt (sv_nlt q (lv_neT hh1 rfl)) (lv_neT hh2 rfl)) (lv_neT hh3 rfl)) (lv_neT hh4 rfl)) (lv_neT hh5 rfl)) (lv_neT hh6 rfl)) (lv_neT hh7 rfl)) (lv_neT hh8 rfl)) (lv_neT hh9 rfl)); exact Or.inr (by omega)) (by decide) ?_
                    refine sv_bipush (pc := 97) (v := (-2 : Int32)) (sv_d k_Mo_count 29 rfl) (by decide) ?_
                    exact sv_ret (pc := 99) (sv_d k_Mo_count 30 rfl) ⟨_, rfl, rfl⟩ rfl
/-! Mo_tape -/
abbrev m_Mo_tape : sv_M := (yX12_tape, cX12_tape, 5, (some .int))
def t_Mo_tape : List (Nat × Instr × Nat) := [(0, .aload_n 0, 1), (1, .iload_n 1, 1), (2, .invokevirtual 393, 3), (5, .ifCond .ne 5, 3), (8, .iconst (-1), 1), (9, .ireturn, 1), (10, .aload_n 0, 1), (11, .iload_n 2, 1), (12, .iconst (-1), 1), (13, .iconst 3, 1), (14, .invokevirtual 251, 3), (17, .ifCond .eq 13, 3), (20, .iload_n 2, 1), (21, .ifCond .lt 12, 3), (24, .iload_n 3, 1), (25, .bipush 80, 2), (27, .if_icmp .le 6, 3), (30, .bipush (-2), 2), (32, .ireturn, 1), (33, .iload_n 2, 1), (34, .ifCond .lt 10, 3), (37, .iload_n 3, 1), (38, .ifCond .ge 6, 3), (41, .bipush (-14), 2), (43, .ireturn, 1), (44, .aload_n 0, 1), (45, .getfield 238, 3), (48, .iload_n 1, 1), (49, .iload_n 2, 1), (50, .iastore, 1), (51, .aload_n 0, 1), (52, .getfield 241, 3), (55, .iload_n 1, 1), (56, .iload_n 2, 1), (57, .ifCond .ge 7, 3), (60, .iconst 0, 1), (61, .goto 4, 3), (64, .iload_n 3, 1), (65, .iastore, 1), (66, .iconst 0, 1), (67, .istore 4, 2), (69, .iload 4, 2), (71, .bipush 80, 2), (73, .if_icmp .ge 22, 3), (76, .aload_n 0, 1), (77, .getfield 244, 3), (80, .bipush 80, 2), (82, .iload_n 1, 1), (83, .imul, 1), (84, .iload 4, 2), (86, .iadd, 1), (87, .lconst 0, 1), (88, .lastore, 1), (89, .iinc 4 1, 3), (92, .goto (-23), 3), (95, .iconst 1, 1), (96, .ireturn, 1)]
theorem k_Mo_tape : sv_tk m_Mo_tape.2.1 t_Mo_tape := by decide +kernel
theorem g_Mo_tape : sv_G m_Mo_tape 3 := ⟨by decide +kernel, sv_in 1930 (by decide +kernel) rfl, sv_in 103 (by decide +kernel) rfl, ⟨by decide, by decide⟩, by decide +kernel, by decide⟩
theorem in_Mo_tape : Cond.instanceMethod m_Mo_tape.1 ∈ sv_T := sv_in 1928 (by decide +kernel) rfl
theorem se_Mo_tape : Cond.selects m_Mo_tape.1.cls m_Mo_tape.1 m_Mo_tape.1 ∈ sv_T := sv_in 1929 (by decide +kernel) rfl
def F_Mo_tape_b69 : Nat → Int32 → Int32 → sv_S → Option (Int32 × sv_S)
  | 0 => fun _ _ _ => none
  | n + 1 => fun x1 x4 s =>
    if (80 : Int32) ≤ x4 then
      some ((1 : Int32), s)
    else
    if sv_ib (((80 : Int32) * x1) + x4) 480 = true then
      ss_let (ss_setL s 241 (((80 : Int32) * x1) + x4).toNatClampNeg (0 : Int64)) fun s5 =>
      ss_let (x4 + (1 : Int32)) fun v6 =>
      F_Mo_tape_b69  n x1 v6 s5
    else none
theorem V_Mo_tape_b69 (E : sv_E) (d : Nat) : ∀ (n : Nat) (x1 : Int32) (x4 : Int32) (s : sv_S), sv_V E m_Mo_tape (d + 2) ss_i 69 [(0, sv_r E 187), (1, .int x1), (4, .int x4)] [] (ss_e s) (F_Mo_tape_b69 n x1 x4 s) := by
  intro n
  induction n with
  | zero => intro x1 x4 s; exact sv_none
  | succ n ih =>
    intro x1 x4 s
    unfold F_Mo_tape_b69
    refine sv_iload (pc := 69) 2 (sv_d k_Mo_tape 41 rfl) rfl ?_
    refine sv_bipush (pc := 71) (v := (80 : Int32)) (sv_d k_Mo_tape 42 rfl) (by decide) ?_
    refine sv_icmp_ge (pc := 73) (tgt := 95) (sv_d k_Mo_tape 43 rfl) (by decide) ?_ ?_
    · refine sv_iconst (pc := 95) (v := (1 : Int32)) (sv_d k_Mo_tape 55 rfl) (by decide) ?_
      exact sv_ret (pc := 96) (sv_d k_Mo_tape 56 rfl) ⟨_, rfl, rfl⟩ rfl
    · refine sv_aload_n (pc := 76) 0 (sv_d k_Mo_tape 44 rfl) rfl rfl ?_
      refine sv_getf (pc := 77) 77 (sv_d k_Mo_tape 45 rfl) cf12 (by decide) w1379 kd187 (ss_lt (by decide)) (lr_187_77 E _) ?_
      refine sv_bipush (pc := 80) (v := (80 : Int32)) (sv_d k_Mo_tape 46 rfl) (by decide) ?_
      refine sv_iload_n (pc := 82) 1 (sv_d k_Mo_tape 47 rfl) rfl rfl ?_
      refine sv_imul (pc := 83) (sv_d k_Mo_tape 48 rfl) ?_
      refine sv_iload (pc := 84) 2 (sv_d k_Mo_tape 49 rfl) rfl ?_
      refine sv_iadd (pc := 86) (sv_d k_Mo_tape 50 rfl) ?_
      refine sv_lconst (pc := 87) (v := (0 : Int64)) (sv_d k_Mo_tape 51 rfl) (by decide) ?_
      refine ss_last (pc := 88) (n := 480) (sv_d k_Mo_tape 52 rfl) kd241 (by decide) (ss_lt (by decide)) rfl (ss_lets (fun s5 e_s5 => ?_))
      refine ss_letr (fun v6 e_v6 => ?_)
      refine sv_iinc (pc := 89) (v := v6) (lv' := [(4, .int v6), (0, sv_r E 187), (1, .int x1)]) (sv_d k_Mo_tape 53 rfl) (n := 2) rfl (by rw [e_v6]; rfl) (by decide) rfl ?_
      refine sv_goto (pc := 92) (tgt := 69) (sv_d k_Mo_tape 54 rfl) (by decide) ?_
      exact sv_loc [1, 2, 0] rfl (ih x1 v6 s5)
def F_Mo_tape_b65 (x1 : Int32) (t1 : Int32) (t2 : Int32) (s : sv_S) : Option (Int32 × sv_S) :=
  if sv_ib t1 6 = true then
    ss_let (ss_setI s 240 t1.toNatClampNeg t2) fun s4 =>
    F_Mo_tape_b69 ss_F x1 (0 : Int32) s4
  else none
theorem V_Mo_tape_b65 (E : sv_E) (d : Nat) (x1 : Int32) (t1 : Int32) (t2 : Int32) (s : sv_S) : sv_V E m_Mo_tape (d + 2) ss_i 65 [(0, sv_r E 187), (1, .int x1)] [.int t2, .int t1, sv_r E 240] (ss_e s) (F_Mo_tape_b65 x1 t1 t2 s) := by
  unfold F_Mo_tape_b65
  refine ss_iast (pc := 65) (n := 6) (sv_d k_Mo_tape 38 rfl) kd240 (by decide) (ss_lt (by decide)) rfl (ss_lets (fun s4 e_s4 => ?_))
  refine sv_iconst (pc := 66) (v := (0 : Int32)) (sv_d k_Mo_tape 39 rfl) (by decide) ?_
  refine sv_istore (pc := 67) (lv' := [(4, .int (0 : Int32)), (0, sv_r E 187), (1, .int x1)]) (sv_d k_Mo_tape 40 rfl) (by decide) rfl ?_
  exact sv_loc [1, 2, 0] rfl (V_Mo_tape_b69 E d ss_F x1 (0 : Int32) s4)
def F_Mo_tape_b44 (x1 : Int32) (x2 : Int32) (x3 : Int32) (s : sv_S) : Option (Int32 × sv_S) :=
  if sv_ib x1 6 = true then
    ss_let (ss_setI s 239 x1.toNatClampNeg x2) fun s3 =>
    if 0 ≤ x2 then
      F_Mo_tape_b65 x1 x1 x3 s3
    else
    F_Mo_tape_b65 x1 x1 (0 : Int32) s3
  else none
theorem V_Mo_tape_b44 (E : sv_E) (d : Nat) (x1 : Int32) (x2 : Int32) (x3 : Int32) (s : sv_S) : sv_V E m_Mo_tape (d + 2) ss_i 44 [(0, sv_r E 187), (1, .int x1), (2, .int x2), (3, .int x3)] [] (ss_e s) (F_Mo_tape_b44 x1 x2 x3 s) := by
  unfold F_Mo_tape_b44
  refine sv_aload_n (pc := 44) 0 (sv_d k_Mo_tape 25 rfl) rfl rfl ?_
  refine sv_getf (pc := 45) 75 (sv_d k_Mo_tape 26 rfl) cf12 (by decide) w1377 kd187 (ss_lt (by decide)) (lr_187_75 E _) ?_
  refine sv_iload_n (pc := 48) 1 (sv_d k_Mo_tape 27 rfl) rfl rfl ?_
  refine sv_iload_n (pc := 49) 2 (sv_d k_Mo_tape 28 rfl) rfl rfl ?_
  refine ss_iast (pc := 50) (n := 6) (sv_d k_Mo_tape 29 rfl) kd239 (by decide) (ss_lt (by decide)) rfl (ss_lets (fun s3 e_s3 => ?_))
  refine sv_aload_n (pc := 51) 0 (sv_d k_Mo_tape 30 rfl) rfl rfl ?_
  refine sv_getf (pc := 52) 76 (sv_d k_Mo_tape 31 rfl) cf12 (by decide) w1378 kd187 (ss_lt (by decide)) (lr_187_76 E _) ?_
  refine sv_iload_n (pc := 55) 1 (sv_d k_Mo_tape 32 rfl) rfl rfl ?_
  refine sv_iload_n (pc := 56) 2 (sv_d k_Mo_tape 33 rfl) rfl rfl ?_
  refine sv_if_ge (pc := 57) (tgt := 64) (sv_d k_Mo_tape 34 rfl) (by decide) ?_ ?_
  · refine sv_iload_n (pc := 64) 3 (sv_d k_Mo_tape 37 rfl) rfl rfl ?_
    exact sv_loc [0, 1] rfl (V_Mo_tape_b65 E d x1 x1 x3 s3)
  · refine sv_iconst (pc := 60) (v := (0 : Int32)) (sv_d k_Mo_tape 35 rfl) (by decide) ?_
    refine sv_goto (pc := 61) (tgt := 65) (sv_d k_Mo_tape 36 rfl) (by decide) ?_
    exact sv_loc [0, 1] rfl (V_Mo_tape_b65 E d x1 x1 (0 : Int32) s3)
def F_Mo_tape_b33 (x1 : Int32) (x2 : Int32) (x3 : Int32) (s : sv_S) : Option (Int32 × sv_S) :=
  if x2 < 0 then
    F_Mo_tape_b44 x1 x2 x3 s
  else
  if 0 ≤ x3 then
    F_Mo_tape_b44 x1 x2 x3 s
  else
  some ((-14 : Int32), s)
theorem V_Mo_tape_b33 (E : sv_E) (d : Nat) (x1 : Int32) (x2 : Int32) (x3 : Int32) (s : sv_S) : sv_V E m_Mo_tape (d + 2) ss_i 33 [(0, sv_r E 187), (1, .int x1), (2, .int x2), (3, .int x3)] [] (ss_e s) (F_Mo_tape_b33 x1 x2 x3 s) := by
  unfold F_Mo_tape_b33
  refine sv_iload_n (pc := 33) 2 (sv_d k_Mo_tape 19 rfl) rfl rfl ?_
  refine sv_if_lt (pc := 34) (tgt := 44) (sv_d k_Mo_tape 20 rfl) (by decide) ?_ ?_
  · exact sv_loc [0, 1, 2, 3] rfl (V_Mo_tape_b44 E d x1 x2 x3 s)
  · refine sv_iload_n (pc := 37) 3 (sv_d k_Mo_tape 21 rfl) rfl rfl ?_
    refine sv_if_ge (pc := 38) (tgt := 44) (sv_d k_Mo_tape 22 rfl) (by decide) ?_ ?_
    · exact sv_loc [0, 1, 2, 3] rfl (V_Mo_tape_b44 E d x1 x2 x3 s)
    · refine sv_bipush (pc := 41) (v := (-14 : Int32)) (sv_d k_Mo_tape 23 rfl) (by decide) ?_
      exact sv_ret (pc := 43) (sv_d k_Mo_tape 24 rfl) ⟨_, rfl, rfl⟩ rfl
def F_Mo_tape (x1 : Int32) (x2 : Int32) (x3 : Int32) (s : sv_S) : Option (Int32 × sv_S) :=
  (F_Mo_isTape x1 s).bind fun r1 =>
  if r1 = 0 then
    some ((-1 : Int32), s)
  else
  (F_Mo_in x2 (-1 : Int32) (3 : Int32) s).bind fun r2 =>
  if r2 = 0 then
    some ((-2 : Int32), s)
  else
  if x2 < 0 then
    F_Mo_tape_b33 x1 x2 x3 s
  else
  if x3 ≤ (80 : Int32) then
    F_Mo_tape_b33 x1 x2 x3 s
  else
  some ((-2 : Int32), s)
theorem V_Mo_tape (E : sv_E) (d : Nat) (x1 : Int32) (x2 : Int32) (x3 : Int32) (s : sv_S) : sv_V E m_Mo_tape (d + 2) ss_i 0 (lv_args 0 [sv_r E 187, .int x1, .int x2, .int x3]) [] (ss_e s) (F_Mo_tape x1 x2 x3 s) := by
  show sv_V E m_Mo_tape (d + 2) ss_i 0 [(0, sv_r E 187), (1, .int x1), (2, .int x2), (3, .int x3)] [] (ss_e s) _
  unfold F_Mo_tape
  refine sv_aload_n (pc := 0) 0 (sv_d k_Mo_tape 0 rfl) rfl rfl ?_
  refine sv_iload_n (pc := 1) 1 (sv_d k_Mo_tape 1 rfl) rfl rfl ?_
  refine sv_callV (pc := 2) (ψ := (ss_pi s)) (As := [.int x1]) (rest := []) (c := 187) (sv_d k_Mo_tape 2 rfl) g_Mo_isTape w1763 in_Mo_isTape se_Mo_isTape cf12 kd187 (ss_lt (by decide)) rfl (Nat.le_of_ble_eq_true rfl) (V_Mo_isTape E (d + 0) x1 s) (Nat.le_of_ble_eq_true rfl) rfl (fun r1 => ?_)
  show sv_V E _ _ _ 5 _ [.int r1] (ss_e s) _
  refine sv_if_ne (pc := 5) (tgt := 10) (sv_d k_Mo_tape 3 rfl) (by decide) ?_ ?_
  · refine sv_aload_n (pc := 10) 0 (sv_d k_Mo_tape 6 rfl) rfl rfl ?_
    refine sv_iload_n (pc := 11) 2 (sv_d k_Mo_tape 7 rfl) rfl rfl ?_
    refine sv_iconst (pc := 12) (v := (-1 : Int32)) (sv_d k_Mo_tape 8 rfl) (by decide) ?_
    refine sv_iconst (pc := 13) (v := (3 : Int32)) (sv_d k_Mo_tape 9 rfl) (by decide) ?_
    refine sv_callV (pc := 14) (ψ := (ss_pi s)) (As := [.int x2, .int (-1 : Int32), .int (3 : Int32)]) (rest := []) (c := 187) (sv_d k_Mo_tape 10 rfl) g_Mo_in w1545 in_Mo_in se_Mo_in cf12 kd187 (ss_lt (by decide)) rfl (Nat.le_of_ble_eq_true rfl) (V_Mo_in E (d + 1) x2 (-1 : Int32) (3 : Int32) s) (Nat.le_of_ble_eq_true rfl) rfl (fun r2 => ?_)
    show sv_V E _ _ _ 17 _ [.int r2] (ss_e s) _
    refine sv_if_eq (pc := 17) (tgt := 30) (sv_d k_Mo_tape 11 rfl) (by decide) ?_ ?_
    · refine sv_bipush (pc := 30) (v := (-2 : Int32)) (sv_d k_Mo_tape 17 rfl) (by decide) ?_
      exact sv_ret (pc := 32) (sv_d k_Mo_tape 18 rfl) ⟨_, rfl, rfl⟩ rfl
    · refine sv_iload_n (pc := 20) 2 (sv_d k_Mo_tape 12 rfl) rfl rfl ?_
      refine sv_if_lt (pc := 21) (tgt := 33) (sv_d k_Mo_tape 13 rfl) (by decide) ?_ ?_
      · exact sv_loc [0, 1, 2, 3] rfl (V_Mo_tape_b33 E d x1 x2 x3 s)
      · refine sv_iload_n (pc := 24) 3 (sv_d k_Mo_tape 14 rfl) rfl rfl ?_
        refine sv_bipush (pc := 25) (v := (80 : Int32)) (sv_d k_Mo_tape 15 rfl) (by decide) ?_
        refine sv_icmp_le (pc := 27) (tgt := 33) (sv_d k_Mo_tape 16 rfl) (by decide) ?_ ?_
        · exact sv_loc [0, 1, 2, 3] rfl (V_Mo_tape_b33 E d x1 x2 x3 s)
        · refine sv_bipush (pc := 30) (v := (-2 : Int32)) (sv_d k_Mo_tape 17 rfl) (by decide) ?_
          exact sv_ret (pc := 32) (sv_d k_Mo_tape 18 rfl) ⟨_, rfl, rfl⟩ rfl
  · refine sv_iconst (pc := 8) (v := (-1 : Int32)) (sv_d k_Mo_tape 4 rfl) (by decide) ?_
    exact sv_ret (pc := 9) (sv_d k_Mo_tape 5 rfl) ⟨_, rfl, rfl⟩ rfl
/-! Mo_item -/
abbrev m_Mo_item : sv_M := (yX12_item, cX12_item, 5, (some .int))
def t_Mo_item : List (Nat × Instr × Nat) := [(0, .aload_n 0, 1), (1, .iload_n 1, 1), (2, .invokevirtual 393, 3), (5, .ifCond .ne 5, 3), (8, .iconst (-1), 1), (9, .ireturn, 1), (10, .aload_n 0, 1), (11, .getfield 238, 3), (14, .iload_n 1, 1), (15, .iaload, 1), (16, .ifCond .ge 6, 3), (19, .bipush (-11), 2), (21, .ireturn, 1), (22, .aload_n 0, 1), (23, .iload_n 2, 1), (24, .iconst 0, 1), (25, .aload_n 0, 1), (26, .getfield 241, 3), (29, .iload_n 1, 1), (30, .iaload, 1), (31, .iconst 1, 1), (32, .isub, 1), (33, .invokevirtual 251, 3), (36, .ifCond .ne 6, 3), (39, .bipush (-13), 2), (41, .ireturn, 1), (42, .aload_n 0, 1), (43, .getfield 244, 3), (46, .bipush 80, 2), (48, .iload_n 1, 1), (49, .imul, 1), (50, .iload_n 2, 1), (51, .iadd, 1), (52, .aload_n 0, 1), (53, .getfield 238, 3), (56, .iload_n 1, 1), (57, .iaload, 1), (58, .ifCond .ne 10, 3), (61, .lload_n 3, 1), (62, .l2i, 1), (63, .i2b, 1), (64, .i2l, 1), (65, .goto 37, 3), (68, .aload_n 0, 1), (69, .getfield 238, 3), (72, .iload_n 1, 1), (73, .iaload, 1), (74, .iconst 1, 1), (75, .if_icmp .ne 10, 3), (78, .lload_n 3, 1), (79, .l2i, 1), (80, .i2s, 1), (81, .i2l, 1), (82, .goto 20, 3), (85, .aload_n 0, 1), (86, .getfield 238, 3), (89, .iload_n 1, 1), (90, .iaload, 1), (91, .iconst 2, 1), (92, .if_icmp .ne 9, 3), (95, .lload_n 3, 1), (96, .l2i, 1), (97, .i2l, 1), (98, .goto 4, 3), (101, .lload_n 3, 1), (102, .lastore, 1), (103, .iconst 1, 1), (104, .ireturn, 1)]
theorem k_Mo_item : sv_tk m_Mo_item.2.1 t_Mo_item := by decide +kernel
theorem g_Mo_item : sv_G m_Mo_item 3 := ⟨by decide +kernel, sv_in 1934 (by decide +kernel) rfl, sv_in 103 (by decide +kernel) rfl, ⟨by decide, by decide⟩, by decide +kernel, by decide⟩
theorem in_Mo_item : Cond.instanceMethod m_Mo_item.1 ∈ sv_T := sv_in 1932 (by decide +kernel) rfl
theorem se_Mo_item : Cond.selects m_Mo_item.1.cls m_Mo_item.1 m_Mo_item.1 ∈ sv_T := sv_in 1933 (by decide +kernel) rfl
def F_Mo_item (x1 : Int32) (x2 : Int32) (y3 : Int64) (s : sv_S) : Option (Int32 × sv_S) :=
  (F_Mo_isTape x1 s).bind fun r1 =>
  if r1 = 0 then
    some ((-1 : Int32), s)
  else
  if sv_ib x1 6 = true then
    if 0 ≤ (s.1 239 x1.toNatClampNeg) then
      if sv_ib x1 6 = true then
        (F_Mo_in x2 (0 : Int32) ((s.1 240 x1.toNatClampNeg) - (1 : Int32)) s).bind fun r2 =>
        if r2 = 0 then
          some ((-13 : Int32), s)
        else
        if sv_ib x1 6 = true then
          if (s.1 239 x1.toNatClampNeg) = 0 then
            if sv_ib (((80 : Int32) * x1) + x2) 480 = true then
              ss_let (ss_setL s 241 (((80 : Int32) * x1) + x2).toNatClampNeg y3.toInt32.toInt8.toInt32.toInt64) fun s6 =>
              some ((1 : Int32), s6)
            else none
          else
          if sv_ib x1 6 = true then
            if (s.1 239 x1.toNatClampNeg) = (1 : Int32) then
              if sv_ib (((80 : Int32) * x1) + x2) 480 = true then
                ss_let (ss_setL s 241 (((80 : Int32) * x1) + x2).toNatClampNeg y3.toInt32.toInt16.toInt32.toInt64) fun s5 =>
                some ((1 : Int32), s5)
              else none
            else
            if sv_ib x1 6 = true then
              if (s.1 239 x1.toNatClampNeg) = (2 : Int32) then
                if sv_ib (((80 : Int32) * x1) + x2) 480 = true then
                  ss_let (ss_setL s 241 (((80 : Int32) * x1) + x2).toNatClampNeg y3.toInt32.toInt64) fun s4 =>
                  some ((1 : Int32), s4)
                else none
              else
              if sv_ib (((80 : Int32) * x1) + x2) 480 = true then
                ss_let (ss_setL s 241 (((80 : Int32) * x1) + x2).toNatClampNeg y3) fun s3 =>
                some ((1 : Int32), s3)
              else none
            else none
          else none
        else none
      else none
    else
    some ((-11 : Int32), s)
  else none
theorem V_Mo_item (E : sv_E) (d : Nat) (x1 : Int32) (x2 : Int32) (y3 : Int64) (s : sv_S) : sv_V E m_Mo_item (d + 2) ss_i 0 (lv_args 0 [sv_r E 187, .int x1, .int x2, .long y3]) [] (ss_e s) (F_Mo_item x1 x2 y3 s) := by
  show sv_V E m_Mo_item (d + 2) ss_i 0 [(0, sv_r E 187), (1, .int x1), (2, .int x2), (3, .long y3)] [] (ss_e s) _
  unfold F_Mo_item
  refine sv_aload_n (pc := 0) 0 (sv_d k_Mo_item 0 rfl) rfl rfl ?_
  refine sv_iload_n (pc := 1) 1 (sv_d k_Mo_item 1 rfl) rfl rfl ?_
  refine sv_callV (pc := 2) (ψ := (ss_pi s)) (As := [.int x1]) (rest := []) (c := 187) (sv_d k_Mo_item 2 rfl) g_Mo_isTape w1763 in_Mo_isTape se_Mo_isTape cf12 kd187 (ss_lt (by decide)) rfl (Nat.le_of_ble_eq_true rfl) (V_Mo_isTape E (d + 0) x1 s) (Nat.le_of_ble_eq_true rfl) rfl (fun r1 => ?_)
  show sv_V E _ _ _ 5 _ [.int r1] (ss_e s) _
  refine sv_if_ne (pc := 5) (tgt := 10) (sv_d k_Mo_item 3 rfl) (by decide) ?_ ?_
  · refine sv_aload_n (pc := 10) 0 (sv_d k_Mo_item 6 rfl) rfl rfl ?_
    refine sv_getf (pc := 11) 75 (sv_d k_Mo_item 7 rfl) cf12 (by decide) w1377 kd187 (ss_lt (by decide)) (lr_187_75 E _) ?_
    refine sv_iload_n (pc := 14) 1 (sv_d k_Mo_item 8 rfl) rfl rfl ?_
    refine ss_iald (pc := 15) (n := 6) (sv_d k_Mo_item 9 rfl) kd239 (ss_lt (by decide)) rfl ?_
    refine sv_if_ge (pc := 16) (tgt := 22) (sv_d k_Mo_item 10 rfl) (by decide) ?_ ?_
    · refine sv_aload_n (pc := 22) 0 (sv_d k_Mo_item 13 rfl) rfl rfl ?_
      refine sv_iload_n (pc := 23) 2 (sv_d k_Mo_item 14 rfl) rfl rfl ?_
      refine sv_iconst (pc := 24) (v := (0 : Int32)) (sv_d k_Mo_item 15 rfl) (by decide) ?_
      refine sv_aload_n (pc := 25) 0 (sv_d k_Mo_item 16 rfl) rfl rfl ?_
      refine sv_getf (pc := 26) 76 (sv_d k_Mo_item 17 rfl) cf12 (by decide) w1378 kd187 (ss_lt (by decide)) (lr_187_76 E _) ?_
      refine sv_iload_n (pc := 29) 1 (sv_d k_Mo_item 18 rfl) rfl rfl ?_
      refine ss_iald (pc := 30) (n := 6) (sv_d k_Mo_item 19 rfl) kd240 (ss_lt (by decide)) rfl ?_
      refine sv_iconst (pc := 31) (v := (1 : Int32)) (sv_d k_Mo_item 20 rfl) (by decide) ?_
      refine sv_isub (pc := 32) (sv_d k_Mo_item 21 rfl) ?_
      refine sv_callV (pc := 33) (ψ := (ss_pi s)) (As := [.int x2, .int (0 : Int32), .int ((s.1 240 x1.toNatClampNeg) - (1 : Int32))]) (rest := []) (c := 187) (sv_d k_Mo_item 22 rfl) g_Mo_in w1545 in_Mo_in se_Mo_in cf12 kd187 (ss_lt (by decide)) rfl (Nat.le_of_ble_eq_true rfl) (V_Mo_in E (d + 1) x2 (0 : Int32) ((s.1 240 x1.toNatClampNeg) - (1 : Int32)) s) (Nat.le_of_ble_eq_true rfl) rfl (fun r2 => ?_)
      show sv_V E _ _ _ 36 _ [.int r2] (ss_e s) _
      refine sv_if_ne (pc := 36) (tgt := 42) (sv_d k_Mo_item 23 rfl) (by decide) ?_ ?_
      · refine sv_aload_n (pc := 42) 0 (sv_d k_Mo_item 26 rfl) rfl rfl ?_
        refine sv_getf (pc := 43) 77 (sv_d k_Mo_item 27 rfl) cf12 (by decide) w1379 kd187 (ss_lt (by decide)) (lr_187_77 E _) ?_
        refine sv_bipush (pc := 46) (v := (80 : Int32)) (sv_d k_Mo_item 28 rfl) (by decide) ?_
        refine sv_iload_n (pc := 48) 1 (sv_d k_Mo_item 29 rfl) rfl rfl ?_
        refine sv_imul (pc := 49) (sv_d k_Mo_item 30 rfl) ?_
        refine sv_iload_n (pc := 50) 2 (sv_d k_Mo_item 31 rfl) rfl rfl ?_
        refine sv_iadd (pc := 51) (sv_d k_Mo_item 32 rfl) ?_
        refine sv_aload_n (pc := 52) 0 (sv_d k_Mo_item 33 rfl) rfl rfl ?_
        refine sv_getf (pc := 53) 75 (sv_d k_Mo_item 34 rfl) cf12 (by decide) w1377 kd187 (ss_lt (by decide)) (lr_187_75 E _) ?_
        refine sv_iload_n (pc := 56) 1 (sv_d k_Mo_item 35 rfl) rfl rfl ?_
        refine ss_iald (pc := 57) (n := 6) (sv_d k_Mo_item 36 rfl) kd239 (ss_lt (by decide)) rfl ?_
        refine sv_if_ne (pc := 58) (tgt := 68) (sv_d k_Mo_item 37 rfl) (by decide) ?_ ?_
        · refine sv_aload_n (pc := 68) 0 (sv_d k_Mo_item 43 rfl) rfl rfl ?_
          refine sv_getf (pc := 69) 75 (sv_d k_Mo_item 44 rfl) cf12 (by decide) w1377 kd187 (ss_lt (by decide)) (lr_187_75 E _) ?_
          refine sv_iload_n (pc := 72) 1 (sv_d k_Mo_item 45 rfl) rfl rfl ?_
          refine ss_iald (pc := 73) (n := 6) (sv_d k_Mo_item 46 rfl) kd239 (ss_lt (by decide)) rfl ?_
          refine sv_iconst (pc := 74) (v := (1 : Int32)) (sv_d k_Mo_item 47 rfl) (by decide) ?_
          refine sv_icmp_ne (pc := 75) (tgt := 85) (sv_d k_Mo_item 48 rfl) (by decide) ?_ ?_
          · refine sv_aload_n (pc := 85) 0 (sv_d k_Mo_item 54 rfl) rfl rfl ?_
            refine sv_getf (pc := 86) 75 (sv_d k_Mo_item 55 rfl) cf12 (by decide) w1377 kd187 (ss_lt (by decide)) (lr_187_75 E _) ?_
            refine sv_iload_n (pc := 89) 1 (sv_d k_Mo_item 56 rfl) rfl rfl ?_
            refine ss_iald (pc := 90) (n := 6) (sv_d k_Mo_item 57 rfl) kd239 (ss_lt (by decide)) rfl ?_
            refine sv_iconst (pc := 91) (v := (2 : Int32)) (sv_d k_Mo_item 58 rfl) (by decide) ?_
            refine sv_icmp_ne (pc := 92) (tgt := 101) (sv_d k_Mo_item 59 rfl) (by decide) ?_ ?_
            · refine sv_lload_n (pc := 101) 3 (sv_d k_Mo_item 64 rfl) rfl rfl ?_
              refine ss_last (pc := 102) (n := 480) (sv_d k_Mo_item 65 rfl) kd241 (by decide) (ss_lt (by decide)) rfl (ss_lets (fun s3 e_s3 => ?_))
              refine sv_iconst (pc := 103) (v := (1 : Int32)) (sv_d k_Mo_item 66 rfl) (by decide) ?_
              exact sv_ret (pc := 104) (sv_d k_Mo_item 67 rfl) ⟨_, rfl, rfl⟩ rfl
            · refine sv_lload_n (pc := 95) 3 (sv_d k_Mo_item 60 rfl) rfl rfl ?_
              refine sv_l2i (pc := 96) (sv_d k_Mo_item 61 rfl) ?_
              refine sv_i2l (pc := 97) (sv_d k_Mo_item 62 rfl) ?_
              refine sv_goto (pc := 98) (tgt := 102) (sv_d k_Mo_item 63 rfl) (by decide) ?_
              refine ss_last (pc := 102) (n := 480) (sv_d k_Mo_item 65 rfl) kd241 (by decide) (ss_lt (by decide)) rfl (ss_lets (fun s4 e_s4 => ?_))
              refine sv_iconst (pc := 103) (v := (1 : Int32)) (sv_d k_Mo_item 66 rfl) (by decide) ?_
              exact sv_ret (pc := 104) (sv_d k_Mo_item 67 rfl) ⟨_, rfl, rfl⟩ rfl
          · refine sv_lload_n (pc := 78) 3 (sv_d k_Mo_item 49 rfl) rfl rfl ?_
            refine sv_l2i (pc := 79) (sv_d k_Mo_item 50 rfl) ?_
            refine sv_i2s (pc := 80) (sv_d k_Mo_item 51 rfl) ?_
            refine sv_i2l (pc := 81) (sv_d k_Mo_item 52 rfl) ?_
            refine sv_goto (pc := 82) (tgt := 102) (sv_d k_Mo_item 53 rfl) (by decide) ?_
            refine ss_last (pc := 102) (n := 480) (sv_d k_Mo_item 65 rfl) kd241 (by decide) (ss_lt (by decide)) rfl (ss_lets (fun s5 e_s5 => ?_))
            refine sv_iconst (pc := 103) (v := (1 : Int32)) (sv_d k_Mo_item 66 rfl) (by decide) ?_
            exact sv_ret (pc := 104) (sv_d k_Mo_item 67 rfl) ⟨_, rfl, rfl⟩ rfl
        · refine sv_lload_n (pc := 61) 3 (sv_d k_Mo_item 38 rfl) rfl rfl ?_
          refine sv_l2i (pc := 62) (sv_d k_Mo_item 39 rfl) ?_
          refine sv_i2b (pc := 63) (sv_d k_Mo_item 40 rfl) ?_
          refine sv_i2l (pc := 64) (sv_d k_Mo_item 41 rfl) ?_
          refine sv_goto (pc := 65) (tgt := 102) (sv_d k_Mo_item 42 rfl) (by decide) ?_
          refine ss_last (pc := 102) (n := 480) (sv_d k_Mo_item 65 rfl) kd241 (by decide) (ss_lt (by decide)) rfl (ss_lets (fun s6 e_s6 => ?_))
          refine sv_iconst (pc := 103) (v := (1 : Int32)) (sv_d k_Mo_item 66 rfl) (by decide) ?_
          exact sv_ret (pc := 104) (sv_d k_Mo_item 67 rfl) ⟨_, rfl, rfl⟩ rfl
      · refine sv_bipush (pc := 39) (v := (-13 : Int32)) (sv_d k_Mo_item 24 rfl) (by decide) ?_
        exact sv_ret (pc := 41) (sv_d k_Mo_item 25 rfl) ⟨_, rfl, rfl⟩ rfl
    · refine sv_bipush (pc := 19) (v := (-11 : Int32)) (sv_d k_Mo_item 11 rfl) (by decide) ?_
      exact sv_ret (pc := 21) (sv_d k_Mo_item 12 rfl) ⟨_, rfl, rfl⟩ rfl
  · refine sv_iconst (pc := 8) (v := (-1 : Int32)) (sv_d k_Mo_item 4 rfl) (by decide) ?_
    exact sv_ret (pc := 9) (sv_d k_Mo_item 5 rfl) ⟨_, rfl, rfl⟩ rfl
/-! Mo_read -/
abbrev m_Mo_read : sv_M := (yX12_read, cX12_read, 3, (some .long))
def t_Mo_read : List (Nat × Instr × Nat) := [(0, .aload_n 0, 1), (1, .iload_n 1, 1), (2, .invokevirtual 393, 3), (5, .ifCond .eq 29, 3), (8, .aload_n 0, 1), (9, .getfield 238, 3), (12, .iload_n 1, 1), (13, .iaload, 1), (14, .ifCond .lt 20, 3), (17, .aload_n 0, 1), (18, .iload_n 2, 1), (19, .iconst 0, 1), (20, .aload_n 0, 1), (21, .getfield 241, 3), (24, .iload_n 1, 1), (25, .iaload, 1), (26, .iconst 1, 1), (27, .isub, 1), (28, .invokevirtual 251, 3), (31, .ifCond .ne 9, 3), (34, .ldc2_w 418, 3), (37, .goto 14, 3), (40, .aload_n 0, 1), (41, .getfield 244, 3), (44, .bipush 80, 2), (46, .iload_n 1, 1), (47, .imul, 1), (48, .iload_n 2, 1), (49, .iadd, 1), (50, .laload, 1), (51, .lreturn, 1)]
theorem k_Mo_read : sv_tk m_Mo_read.2.1 t_Mo_read := by decide +kernel
theorem g_Mo_read : sv_G m_Mo_read 2 := ⟨by decide +kernel, sv_in 1938 (by decide +kernel) rfl, sv_in 103 (by decide +kernel) rfl, ⟨by decide, by decide⟩, by decide +kernel, by decide⟩
theorem in_Mo_read : Cond.instanceMethod m_Mo_read.1 ∈ sv_T := sv_in 1936 (by decide +kernel) rfl
theorem se_Mo_read : Cond.selects m_Mo_read.1.cls m_Mo_read.1 m_Mo_read.1 ∈ sv_T := sv_in 1937 (by decide +kernel) rfl
def F_Mo_read (x1 : Int32) (x2 : Int32) (s : sv_S) : Option (Int64) :=
  (F_Mo_isTape x1 s).bind fun r1 =>
  if r1 = 0 then
    some (-9223372036854775808 : Int64)
  else
  if sv_ib x1 6 = true then
    if (s.1 239 x1.toNatClampNeg) < 0 then
      some (-9223372036854775808 : Int64)
    else
    if sv_ib x1 6 = true then
      (F_Mo_in x2 (0 : Int32) ((s.1 240 x1.toNatClampNeg) - (1 : Int32)) s).bind fun r2 =>
      if r2 = 0 then
        some (-9223372036854775808 : Int64)
      else
      if sv_ib (((80 : Int32) * x1) + x2) 480 = true then
        some (s.2.1 241 (((80 : Int32) * x1) + x2).toNatClampNeg)
      else none
    else none
  else none
theorem V_Mo_read (E : sv_E) (d : Nat) (x1 : Int32) (x2 : Int32) (s : sv_S) : sv_V E m_Mo_read (d + 2) (ss_pl s) 0 (lv_args 0 [sv_r E 187, .int x1, .int x2]) [] (ss_e s) (F_Mo_read x1 x2 s) := by
  show sv_V E m_Mo_read (d + 2) (ss_pl s) 0 [(0, sv_r E 187), (1, .int x1), (2, .int x2)] [] (ss_e s) _
  unfold F_Mo_read
  refine sv_aload_n (pc := 0) 0 (sv_d k_Mo_read 0 rfl) rfl rfl ?_
  refine sv_iload_n (pc := 1) 1 (sv_d k_Mo_read 1 rfl) rfl rfl ?_
  refine sv_callV (pc := 2) (ψ := (ss_pi s)) (As := [.int x1]) (rest := []) (c := 187) (sv_d k_Mo_read 2 rfl) g_Mo_isTape w1763 in_Mo_isTape se_Mo_isTape cf12 kd187 (ss_lt (by decide)) rfl (Nat.le_of_ble_eq_true rfl) (V_Mo_isTape E (d + 0) x1 s) (Nat.le_of_ble_eq_true rfl) rfl (fun r1 => ?_)
  show sv_V E _ _ _ 5 _ [.int r1] (ss_e s) _
  refine sv_if_eq (pc := 5) (tgt := 34) (sv_d k_Mo_read 3 rfl) (by decide) ?_ ?_
  · refine sv_ldc2 (pc := 34) (v := (-9223372036854775808 : Int64)) w1812 (sv_d k_Mo_read 20 rfl) ?_
    refine sv_goto (pc := 37) (tgt := 51) (sv_d k_Mo_read 21 rfl) (by decide) ?_
    exact sv_ret (pc := 51) (sv_d k_Mo_read 30 rfl) ⟨_, rfl⟩ rfl
  · refine sv_aload_n (pc := 8) 0 (sv_d k_Mo_read 4 rfl) rfl rfl ?_
    refine sv_getf (pc := 9) 75 (sv_d k_Mo_read 5 rfl) cf12 (by decide) w1377 kd187 (ss_lt (by decide)) (lr_187_75 E _) ?_
    refine sv_iload_n (pc := 12) 1 (sv_d k_Mo_read 6 rfl) rfl rfl ?_
    refine ss_iald (pc := 13) (n := 6) (sv_d k_Mo_read 7 rfl) kd239 (ss_lt (by decide)) rfl ?_
    refine sv_if_lt (pc := 14) (tgt := 34) (sv_d k_Mo_read 8 rfl) (by decide) ?_ ?_
    · refine sv_ldc2 (pc := 34) (v := (-9223372036854775808 : Int64)) w1812 (sv_d k_Mo_read 20 rfl) ?_
      refine sv_goto (pc := 37) (tgt := 51) (sv_d k_Mo_read 21 rfl) (by decide) ?_
      exact sv_ret (pc := 51) (sv_d k_Mo_read 30 rfl) ⟨_, rfl⟩ rfl
    · refine sv_aload_n (pc := 17) 0 (sv_d k_Mo_read 9 rfl) rfl rfl ?_
      refine sv_iload_n (pc := 18) 2 (sv_d k_Mo_read 10 rfl) rfl rfl ?_
      refine sv_iconst (pc := 19) (v := (0 : Int32)) (sv_d k_Mo_read 11 rfl) (by decide) ?_
      refine sv_aload_n (pc := 20) 0 (sv_d k_Mo_read 12 rfl) rfl rfl ?_
      refine sv_getf (pc := 21) 76 (sv_d k_Mo_read 13 rfl) cf12 (by decide) w1378 kd187 (ss_lt (by decide)) (lr_187_76 E _) ?_
      refine sv_iload_n (pc := 24) 1 (sv_d k_Mo_read 14 rfl) rfl rfl ?_
      refine ss_iald (pc := 25) (n := 6) (sv_d k_Mo_read 15 rfl) kd240 (ss_lt (by decide)) rfl ?_
      refine sv_iconst (pc := 26) (v := (1 : Int32)) (sv_d k_Mo_read 16 rfl) (by decide) ?_
      refine sv_isub (pc := 27) (sv_d k_Mo_read 17 rfl) ?_
      refine sv_callV (pc := 28) (ψ := (ss_pi s)) (As := [.int x2, .int (0 : Int32), .int ((s.1 240 x1.toNatClampNeg) - (1 : Int32))]) (rest := []) (c := 187) (sv_d k_Mo_read 18 rfl) g_Mo_in w1545 in_Mo_in se_Mo_in cf12 kd187 (ss_lt (by decide)) rfl (Nat.le_of_ble_eq_true rfl) (V_Mo_in E (d + 1) x2 (0 : Int32) ((s.1 240 x1.toNatClampNeg) - (1 : Int32)) s) (Nat.le_of_ble_eq_true rfl) rfl (fun r2 => ?_)
      show sv_V E _ _ _ 31 _ [.int r2] (ss_e s) _
      refine sv_if_ne (pc := 31) (tgt := 40) (sv_d k_Mo_read 19 rfl) (by decide) ?_ ?_
      · refine sv_aload_n (pc := 40) 0 (sv_d k_Mo_read 22 rfl) rfl rfl ?_
        refine sv_getf (pc := 41) 77 (sv_d k_Mo_read 23 rfl) cf12 (by decide) w1379 kd187 (ss_lt (by decide)) (lr_187_77 E _) ?_
        refine sv_bipush (pc := 44) (v := (80 : Int32)) (sv_d k_Mo_read 24 rfl) (by decide) ?_
        refine sv_iload_n (pc := 46) 1 (sv_d k_Mo_read 25 rfl) rfl rfl ?_
        refine sv_imul (pc := 47) (sv_d k_Mo_read 26 rfl) ?_
        refine sv_iload_n (pc := 48) 2 (sv_d k_Mo_read 27 rfl) rfl rfl ?_
        refine sv_iadd (pc := 49) (sv_d k_Mo_read 28 rfl) ?_
        refine ss_lald (pc := 50) (n := 480) (sv_d k_Mo_read 29 rfl) kd241 (ss_lt (by decide)) rfl ?_
        exact sv_ret (pc := 51) (sv_d k_Mo_read 30 rfl) ⟨_, rfl⟩ rfl
      · refine sv_ldc2 (pc := 34) (v := (-9223372036854775808 : Int64)) w1812 (sv_d k_Mo_read 20 rfl) ?_
        refine sv_goto (pc := 37) (tgt := 51) (sv_d k_Mo_read 21 rfl) (by decide) ?_
        exact sv_ret (pc := 51) (sv_d k_Mo_read 30 rfl) ⟨_, rfl⟩ rfl
/-! Mo_shift -/
abbrev m_Mo_shift : sv_M := (yX12_shift, cX12_shift, 7, (some .int))
def t_Mo_shift : List (Nat × Instr × Nat) := [(0, .aload_n 0, 1), (1, .iload_n 1, 1), (2, .invokevirtual 393, 3), (5, .ifCond .eq 11, 3), (8, .aload_n 0, 1), (9, .iload_n 3, 1), (10, .invokevirtual 393, 3), (13, .ifCond .ne 5, 3), (16, .iconst (-1), 1), (17, .ireturn, 1), (18, .aload_n 0, 1), (19, .getfield 238, 3), (22, .iload_n 1, 1), (23, .iaload, 1), (24, .ifCond .lt 12, 3), (27, .aload_n 0, 1), (28, .getfield 238, 3), (31, .iload_n 3, 1), (32, .iaload, 1), (33, .ifCond .ge 6, 3), (36, .bipush (-11), 2), (38, .ireturn, 1), (39, .aload_n 0, 1), (40, .getfield 238, 3), (43, .iload_n 1, 1), (44, .iaload, 1), (45, .aload_n 0, 1), (46, .getfield 238, 3), (49, .iload_n 3, 1), (50, .iaload, 1), (51, .if_icmp .eq 6, 3), (54, .bipush (-12), 2), (56, .ireturn, 1), (57, .iload 5, 2), (59, .ifCond .lt 39, 3), (62, .iload_n 2, 1), (63, .ifCond .lt 35, 3), (66, .iload 4, 2), (68, .ifCond .lt 30, 3), (71, .iload_n 2, 1), (72, .aload_n 0, 1), (73, .getfield 241, 3), (76, .iload_n 1, 1), (77, .iaload, 1), (78, .iload 5, 2), (80, .isub, 1), (81, .if_icmp .gt 17, 3), (84, .iload 4, 2), (86, .aload_n 0, 1), (87, .getfield 241, 3), (90, .iload_n 3, 1), (91, .iaload, 1), (92, .iload 5, 2), (94, .isub, 1), (95, .if_icmp .le 6, 3), (98, .bipush (-13), 2), (100, .ireturn, 1), (101, .iconst 0, 1), (102, .istore 6, 2), (104, .iload 6, 2), (106, .iload 5, 2), (108, .if_icmp .ge 30, 3), (111, .aload_n 0, 1), (112, .getfield 248, 3), (115, .iload 6, 2), (117, .aload_n 0, 1), (118, .getfield 244, 3), (121, .bipush 80, 2), (123, .iload_n 1, 1), (124, .imul, 1), (125, .iload_n 2, 1), (126, .iadd, 1), (127, .iload 6, 2), (129, .iadd, 1), (130, .laload, 1), (131, .lastore, 1), (132, .iinc 6 1, 3), (135, .goto (-31), 3), (138, .iconst 0, 1), (139, .istore 6, 2), (141, .iload 6, 2), (143, .iload 5, 2), (145, .if_icmp .ge 31, 3), (148, .aload_n 0, 1), (149, .getfield 244, 3), (152, .bipush 80, 2), (154, .iload_n 3, 1), (155, .imul, 1), (156, .iload 4, 2), (158, .iadd, 1), (159, .iload 6, 2), (161, .iadd, 1), (162, .aload_n 0, 1), (163, .getfield 248, 3), (166, .iload 6, 2), (168, .laload, 1), (169, .lastore, 1), (170, .iinc 6 1, 3), (173, .goto (-32), 3), (176, .iload 5, 2), (178, .ireturn, 1)]
theorem k_Mo_shift : sv_tk m_Mo_shift.2.1 t_Mo_shift := by decide +kernel
theorem g_Mo_shift : sv_G m_Mo_shift 5 := ⟨by decide +kernel, sv_in 1942 (by decide +kernel) rfl, sv_in 103 (by decide +kernel) rfl, ⟨by decide, by decide⟩, by decide +kernel, by decide⟩
theorem in_Mo_shift : Cond.instanceMethod m_Mo_shift.1 ∈ sv_T := sv_in 1940 (by decide +kernel) rfl
theorem se_Mo_shift : Cond.selects m_Mo_shift.1.cls m_Mo_shift.1 m_Mo_shift.1 ∈ sv_T := sv_in 1941 (by decide +kernel) rfl
def F_Mo_shift_b141 : Nat → Int32 → Int32 → Int32 → Int32 → sv_S → Option (Int32 × sv_S)
  | 0 => fun _ _ _ _ _ => none
  | n + 1 => fun x3 x4 x5 x6 s =>
    if x5 ≤ x6 then
      some (x5, s)
    else
    if sv_ib x6 80 = true then
      if sv_ib ((((80 : Int32) * x3) + x4) + x6) 480 = true then
        ss_let (ss_setL s 241 ((((80 : Int32) * x3) + x4) + x6).toNatClampNeg (s.2.1 242 x6.toNatClampNeg)) fun s3 =>
        ss_let (x6 + (1 : Int32)) fun v4 =>
        F_Mo_shift_b141  n x3 x4 x5 v4 s3
      else none
    else none
theorem V_Mo_shift_b141 (E : sv_E) (d : Nat) : ∀ (n : Nat) (x3 : Int32) (x4 : Int32) (x5 : Int32) (x6 : Int32) (s : sv_S), sv_V E m_Mo_shift (d + 2) ss_i 141 [(0, sv_r E 187), (3, .int x3), (4, .int x4), (5, .int x5), (6, .int x6)] [] (ss_e s) (F_Mo_shift_b141 n x3 x4 x5 x6 s) := by
  intro n
  induction n with
  | zero => intro x3 x4 x5 x6 s; exact sv_none
  | succ n ih =>
    intro x3 x4 x5 x6 s
    unfold F_Mo_shift_b141
    refine sv_iload (pc := 141) 4 (sv_d k_Mo_shift 80 rfl) rfl ?_
    refine sv_iload (pc := 143) 3 (sv_d k_Mo_shift 81 rfl) rfl ?_
    refine sv_icmp_ge (pc := 145) (tgt := 176) (sv_d k_Mo_shift 82 rfl) (by decide) ?_ ?_
    · refine sv_iload (pc := 176) 3 (sv_d k_Mo_shift 99 rfl) rfl ?_
      exact sv_ret (pc := 178) (sv_d k_Mo_shift 100 rfl) ⟨_, rfl, rfl⟩ rfl
    · refine sv_aload_n (pc := 148) 0 (sv_d k_Mo_shift 83 rfl) rfl rfl ?_
      refine sv_getf (pc := 149) 77 (sv_d k_Mo_shift 84 rfl) cf12 (by decide) w1379 kd187 (ss_lt (by decide)) (lr_187_77 E _) ?_
      refine sv_bipush (pc := 152) (v := (80 : Int32)) (sv_d k_Mo_shift 85 rfl) (by decide) ?_
      refine sv_iload_n (pc := 154) 1 (sv_d k_Mo_shift 86 rfl) rfl rfl ?_
      refine sv_imul (pc := 155) (sv_d k_Mo_shift 87 rfl) ?_
      refine sv_iload (pc := 156) 2 (sv_d k_Mo_shift 88 rfl) rfl ?_
      refine sv_iadd (pc := 158) (sv_d k_Mo_shift 89 rfl) ?_
      refine sv_iload (pc := 159) 4 (sv_d k_Mo_shift 90 rfl) rfl ?_
      refine sv_iadd (pc := 161) (sv_d k_Mo_shift 91 rfl) ?_
      refine sv_aload_n (pc := 162) 0 (sv_d k_Mo_shift 92 rfl) rfl rfl ?_
      refine sv_getf (pc := 163) 78 (sv_d k_Mo_shift 93 rfl) cf12 (by decide) w1380 kd187 (ss_lt (by decide)) (lr_187_78 E _) ?_
      refine sv_iload (pc := 166) 4 (sv_d k_Mo_shift 94 rfl) rfl ?_
      refine ss_lald (pc := 168) (n := 80) (sv_d k_Mo_shift 95 rfl) kd242 (ss_lt (by decide)) rfl ?_
      refine ss_last (pc := 169) (n := 480) (sv_d k_Mo_shift 96 rfl) kd241 (by decide) (ss_lt (by decide)) rfl (ss_lets (fun s3 e_s3 => ?_))
      refine ss_letr (fun v4 e_v4 => ?_)
      refine sv_iinc (pc := 170) (v := v4) (lv' := [(6, .int v4), (0, sv_r E 187), (3, .int x3), (4, .int x4), (5, .int x5)]) (sv_d k_Mo_shift 97 rfl) (n := 4) rfl (by rw [e_v4]; rfl) (by decide) rfl ?_
      refine sv_goto (pc := 173) (tgt := 141) (sv_d k_Mo_shift 98 rfl) (by decide) ?_
      exact sv_loc [1, 2, 3, 4, 0] rfl (ih x3 x4 x5 v4 s3)
def F_Mo_shift_b104 : Nat → Int32 → Int32 → Int32 → Int32 → Int32 → Int32 → sv_S → Option (Int32 × sv_S)
  | 0 => fun _ _ _ _ _ _ _ => none
  | n + 1 => fun x1 x2 x3 x4 x5 x6 s =>
    if x5 ≤ x6 then
      F_Mo_shift_b141 ss_F x3 x4 x5 (0 : Int32) s
    else
    if sv_ib ((((80 : Int32) * x1) + x2) + x6) 480 = true then
      if sv_ib x6 80 = true then
        ss_let (ss_setL s 242 x6.toNatClampNeg (s.2.1 241 ((((80 : Int32) * x1) + x2) + x6).toNatClampNeg)) fun s5 =>
        ss_let (x6 + (1 : Int32)) fun v6 =>
        F_Mo_shift_b104  n x1 x2 x3 x4 x5 v6 s5
      else none
    else none
theorem V_Mo_shift_b104 (E : sv_E) (d : Nat) : ∀ (n : Nat) (x1 : Int32) (x2 : Int32) (x3 : Int32) (x4 : Int32) (x5 : Int32) (x6 : Int32) (s : sv_S), sv_V E m_Mo_shift (d + 2) ss_i 104 [(0, sv_r E 187), (1, .int x1), (2, .int x2), (3, .int x3), (4, .int x4), (5, .int x5), (6, .int x6)] [] (ss_e s) (F_Mo_shift_b104 n x1 x2 x3 x4 x5 x6 s) := by
  intro n
  induction n with
  | zero => intro x1 x2 x3 x4 x5 x6 s; exact sv_none
  | succ n ih =>
    intro x1 x2 x3 x4 x5 x6 s
    unfold F_Mo_shift_b104
    refine sv_iload (pc := 104) 6 (sv_d k_Mo_shift 59 rfl) rfl ?_
    refine sv_iload (pc := 106) 5 (sv_d k_Mo_shift 60 rfl) rfl ?_
    refine sv_icmp_ge (pc := 108) (tgt := 138) (sv_d k_Mo_shift 61 rfl) (by decide) ?_ ?_
    · refine sv_iconst (pc := 138) (v := (0 : Int32)) (sv_d k_Mo_shift 78 rfl) (by decide) ?_
      refine sv_istore (pc := 139) (lv' := [(6, .int (0 : Int32)), (0, sv_r E 187), (1, .int x1), (2, .int x2), (3, .int x3), (4, .int x4), (5, .int x5)]) (sv_d k_Mo_shift 79 rfl) (by decide) rfl ?_
      exact sv_loc [1, 4, 5, 6, 0] rfl (V_Mo_shift_b141 E d ss_F x3 x4 x5 (0 : Int32) s)
    · refine sv_aload_n (pc := 111) 0 (sv_d k_Mo_shift 62 rfl) rfl rfl ?_
      refine sv_getf (pc := 112) 78 (sv_d k_Mo_shift 63 rfl) cf12 (by decide) w1380 kd187 (ss_lt (by decide)) (lr_187_78 E _) ?_
      refine sv_iload (pc := 115) 6 (sv_d k_Mo_shift 64 rfl) rfl ?_
      refine sv_aload_n (pc := 117) 0 (sv_d k_Mo_shift 65 rfl) rfl rfl ?_
      refine sv_getf (pc := 118) 77 (sv_d k_Mo_shift 66 rfl) cf12 (by decide) w1379 kd187 (ss_lt (by decide)) (lr_187_77 E _) ?_
      refine sv_bipush (pc := 121) (v := (80 : Int32)) (sv_d k_Mo_shift 67 rfl) (by decide) ?_
      refine sv_iload_n (pc := 123) 1 (sv_d k_Mo_shift 68 rfl) rfl rfl ?_
      refine sv_imul (pc := 124) (sv_d k_Mo_shift 69 rfl) ?_
      refine sv_iload_n (pc := 125) 2 (sv_d k_Mo_shift 70 rfl) rfl rfl ?_
      refine sv_iadd (pc := 126) (sv_d k_Mo_shift 71 rfl) ?_
      refine sv_iload (pc := 127) 6 (sv_d k_Mo_shift 72 rfl) rfl ?_
      refine sv_iadd (pc := 129) (sv_d k_Mo_shift 73 rfl) ?_
      refine ss_lald (pc := 130) (n := 480) (sv_d k_Mo_shift 74 rfl) kd241 (ss_lt (by decide)) rfl ?_
      refine ss_last (pc := 131) (n := 80) (sv_d k_Mo_shift 75 rfl) kd242 (by decide) (ss_lt (by decide)) rfl (ss_lets (fun s5 e_s5 => ?_))
      refine ss_letr (fun v6 e_v6 => ?_)
      refine sv_iinc (pc := 132) (v := v6) (lv' := [(6, .int v6), (0, sv_r E 187), (1, .int x1), (2, .int x2), (3, .int x3), (4, .int x4), (5, .int x5)]) (sv_d k_Mo_shift 76 rfl) (n := 6) rfl (by rw [e_v6]; rfl) (by decide) rfl ?_
      refine sv_goto (pc := 135) (tgt := 104) (sv_d k_Mo_shift 77 rfl) (by decide) ?_
      exact sv_loc [1, 2, 3, 4, 5, 6, 0] rfl (ih x1 x2 x3 x4 x5 v6 s5)
def F_Mo_shift (x1 : Int32) (x2 : Int32) (x3 : Int32) (x4 : Int32) (x5 : Int32) (s : sv_S) : Option (Int32 × sv_S) :=
  (F_Mo_isTape x1 s).bind fun r1 =>
  if r1 = 0 then
    some ((-1 : Int32), s)
  else
  (F_Mo_isTape x3 s).bind fun r2 =>
  if r2 = 0 then
    some ((-1 : Int32), s)
  else
  if sv_ib x1 6 = true then
    if (s.1 239 x1.toNatClampNeg) < 0 then
      some ((-11 : Int32), s)
    else
    if sv_ib x3 6 = true then
      if 0 ≤ (s.1 239 x3.toNatClampNeg) then
        if sv_ib x1 6 = true then
          if sv_ib x3 6 = true then
            if (s.1 239 x1.toNatClampNeg) = (s.1 239 x3.toNatClampNeg) then
              if x5 < 0 then
                some ((-13 : Int32), s)
              else
              if x2 < 0 then
                some ((-13 : Int32), s)
              else
              if x4 < 0 then
                some ((-13 : Int32), s)
              else
              if sv_ib x1 6 = true then
                if ((s.1 240 x1.toNatClampNeg) - x5) < x2 then
                  some ((-13 : Int32), s)
                else
                if sv_ib x3 6 = true then
                  if x4 ≤ ((s.1 240 x3.toNatClampNeg) - x5) then
                    F_Mo_shift_b104 ss_F x1 x2 x3 x4 x5 (0 : Int32) s
                  else
                  some ((-13 : Int32), s)
                else none
              else none
            else
            some ((-12 : Int32), s)
          else none
        else none
      else
      some ((-11 : Int32), s)
    else none
  else none
theorem V_Mo_shift (E : sv_E) (d : Nat) (x1 : Int32) (x2 : Int32) (x3 : Int32) (x4 : Int32) (x5 : Int32) (s : sv_S) : sv_V E m_Mo_shift (d + 2) ss_i 0 (lv_args 0 [sv_r E 187, .int x1, .int x2, .int x3, .int x4, .int x5]) [] (ss_e s) (F_Mo_shift x1 x2 x3 x4 x5 s) := by
  show sv_V E m_Mo_shift (d + 2) ss_i 0 [(0, sv_r E 187), (1, .int x1), (2, .int x2), (3, .int x3), (4, .int x4), (5, .int x5)] [] (ss_e s) _
  unfold F_Mo_shift
  refine sv_aload_n (pc := 0) 0 (sv_d k_Mo_shift 0 rfl) rfl rfl ?_
  refine sv_iload_n (pc := 1) 1 (sv_d k_Mo_shift 1 rfl) rfl rfl ?_
  refine sv_callV (pc := 2) (ψ := (ss_pi s)) (As := [.int x1]) (rest := []) (c := 187) (sv_d k_Mo_shift 2 rfl) g_Mo_isTape w1763 in_Mo_isTape se_Mo_isTape cf12 kd187 (ss_lt (by decide)) rfl (Nat.le_of_ble_eq_true rfl) (V_Mo_isTape E (d + 0) x1 s) (Nat.le_of_ble_eq_true rfl) rfl (fun r1 => ?_)
  show sv_V E _ _ _ 5 _ [.int r1] (ss_e s) _
  refine sv_if_eq (pc := 5) (tgt := 16) (sv_d k_Mo_shift 3 rfl) (by decide) ?_ ?_
  · refine sv_iconst (pc := 16) (v := (-1 : Int32)) (sv_d k_Mo_shift 8 rfl) (by decide) ?_
    exact sv_ret (pc := 17) (sv_d k_Mo_shift 9 rfl) ⟨_, rfl, rfl⟩ rfl
  · refine sv_aload_n (pc := 8) 0 (sv_d k_Mo_shift 4 rfl) rfl rfl ?_
    refine sv_iload_n (pc := 9) 3 (sv_d k_Mo_shift 5 rfl) rfl rfl ?_
    refine sv_callV (pc := 10) (ψ := (ss_pi s)) (As := [.int x3]) (rest := []) (c := 187) (sv_d k_Mo_shift 6 rfl) g_Mo_isTape w1763 in_Mo_isTape se_Mo_isTape cf12 kd187 (ss_lt (by decide)) rfl (Nat.le_of_ble_eq_true rfl) (V_Mo_isTape E (d + 0) x3 s) (Nat.le_of_ble_eq_true rfl) rfl (fun r2 => ?_)
    show sv_V E _ _ _ 13 _ [.int r2] (ss_e s) _
    refine sv_if_ne (pc := 13) (tgt := 18) (sv_d k_Mo_shift 7 rfl) (by decide) ?_ ?_
    · refine sv_aload_n (pc := 18) 0 (sv_d k_Mo_shift 10 rfl) rfl rfl ?_
      refine sv_getf (pc := 19) 75 (sv_d k_Mo_shift 11 rfl) cf12 (by decide) w1377 kd187 (ss_lt (by decide)) (lr_187_75 E _) ?_
      refine sv_iload_n (pc := 22) 1 (sv_d k_Mo_shift 12 rfl) rfl rfl ?_
      refine ss_iald (pc := 23) (n := 6) (sv_d k_Mo_shift 13 rfl) kd239 (ss_lt (by decide)) rfl ?_
      refine sv_if_lt (pc := 24) (tgt := 36) (sv_d k_Mo_shift 14 rfl) (by decide) ?_ ?_
      · refine sv_bipush (pc := 36) (v := (-11 : Int32)) (sv_d k_Mo_shift 20 rfl) (by decide) ?_
        exact sv_ret (pc := 38) (sv_d k_Mo_shift 21 rfl) ⟨_, rfl, rfl⟩ rfl
      · refine sv_aload_n (pc := 27) 0 (sv_d k_Mo_shift 15 rfl) rfl rfl ?_
        refine sv_getf (pc := 28) 75 (sv_d k_Mo_shift 16 rfl) cf12 (by decide) w1377 kd187 (ss_lt (by decide)) (lr_187_75 E _) ?_
        refine sv_iload_n (pc := 31) 3 (sv_d k_Mo_shift 17 rfl) rfl rfl ?_
        refine ss_iald (pc := 32) (n := 6) (sv_d k_Mo_shift 18 rfl) kd239 (ss_lt (by decide)) rfl ?_
        refine sv_if_ge (pc := 33) (tgt := 39) (sv_d k_Mo_shift 19 rfl) (by decide) ?_ ?_
        · refine sv_aload_n (pc := 39) 0 (sv_d k_Mo_shift 22 rfl) rfl rfl ?_
          refine sv_getf (pc := 40) 75 (sv_d k_Mo_shift 23 rfl) cf12 (by decide) w1377 kd187 (ss_lt (by decide)) (lr_187_75 E _) ?_
          refine sv_iload_n (pc := 43) 1 (sv_d k_Mo_shift 24 rfl) rfl rfl ?_
          refine ss_iald (pc := 44) (n := 6) (sv_d k_Mo_shift 25 rfl) kd239 (ss_lt (by decide)) rfl ?_
          refine sv_aload_n (pc := 45) 0 (sv_d k_Mo_shift 26 rfl) rfl rfl ?_
          refine sv_getf (pc := 46) 75 (sv_d k_Mo_shift 27 rfl) cf12 (by decide) w1377 kd187 (ss_lt (by decide)) (lr_187_75 E _) ?_
          refine sv_iload_n (pc := 49) 3 (sv_d k_Mo_shift 28 rfl) rfl rfl ?_
          refine ss_iald (pc := 50) (n := 6) (sv_d k_Mo_shift 29 rfl) kd239 (ss_lt (by decide)) rfl ?_
          refine sv_icmp_eq (pc := 51) (tgt := 57) (sv_d k_Mo_shift 30 rfl) (by decide) ?_ ?_
          · refine sv_iload (pc := 57) 5 (sv_d k_Mo_shift 33 rfl) rfl ?_
            refine sv_if_lt (pc := 59) (tgt := 98) (sv_d k_Mo_shift 34 rfl) (by decide) ?_ ?_
            · refine sv_bipush (pc := 98) (v := (-13 : Int32)) (sv_d k_Mo_shift 55 rfl) (by decide) ?_
              exact sv_ret (pc := 100) (sv_d k_Mo_shift 56 rfl) ⟨_, rfl, rfl⟩ rfl
            · refine sv_iload_n (pc := 62) 2 (sv_d k_Mo_shift 35 rfl) rfl rfl ?_
              refine sv_if_lt (pc := 63) (tgt := 98) (sv_d k_Mo_shift 36 rfl) (by decide) ?_ ?_
              · refine sv_bipush (pc := 98) (v := (-13 : Int32)) (sv_d k_Mo_shift 55 rfl) (by decide) ?_
                exact sv_ret (pc := 100) (sv_d k_Mo_shift 56 rfl) ⟨_, rfl, rfl⟩ rfl
              · refine sv_iload (pc := 66) 4 (sv_d k_Mo_shift 37 rfl) rfl ?_
                refine sv_if_lt (pc := 68) (tgt := 98) (sv_d k_Mo_shift 38 rfl) (by decide) ?_ ?_
                · refine sv_bipush (pc := 98) (v := (-13 : Int32)) (sv_d k_Mo_shift 55 rfl) (by decide) ?_
                  exact sv_ret (pc := 100) (sv_d k_Mo_shift 56 rfl) ⟨_, rfl, rfl⟩ rfl
                · refine sv_iload_n (pc := 71) 2 (sv_d k_Mo_shift 39 rfl) rfl rfl ?_
                  refine sv_aload_n (pc := 72) 0 (sv_d k_Mo_shift 40 rfl) rfl rfl ?_
                  refine sv_getf (pc := 73) 76 (sv_d k_Mo_shift 41 rfl) cf12 (by decide) w1378 kd187 (ss_lt (by decide)) (lr_187_76 E _) ?_
                  refine sv_iload_n (pc := 76) 1 (sv_d k_Mo_shift 42 rfl) rfl rfl ?_
                  refine ss_iald (pc := 77) (n := 6) (sv_d k_Mo_shift 43 rfl) kd240 (ss_lt (by decide)) rfl ?_
                  refine sv_iload (pc := 78) 5 (sv_d k_Mo_shift 44 rfl) rfl ?_
                  refine sv_isub (pc := 80) (sv_d k_Mo_shift 45 rfl) ?_
                  refine sv_icmp_gt (pc := 81) (tgt := 98) (sv_d k_Mo_shift 46 rfl) (by decide) ?_ ?_
                  · refine sv_bipush (pc := 98) (v := (-13 : Int32)) (sv_d k_Mo_shift 55 rfl) (by decide) ?_
                    exact sv_ret (pc := 100) (sv_d k_Mo_shift 56 rfl) ⟨_, rfl, rfl⟩ rfl
                  · refine sv_iload (pc := 84) 4 (sv_d k_Mo_shift 47 rfl) rfl ?_
                    refine sv_aload_n (pc := 86) 0 (sv_d k_Mo_shift 48 rfl) rfl rfl ?_
                    refine sv_getf (pc := 87) 76 (sv_d k_Mo_shift 49 rfl) cf12 (by decide) w1378 kd187 (ss_lt (by decide)) (lr_187_76 E _) ?_
                    refine sv_iload_n (pc := 90) 3 (sv_d k_Mo_shift 50 rfl) rfl rfl ?_
                    refine ss_iald (pc := 91) (n := 6) (sv_d k_Mo_shift 51 rfl) kd240 (ss_lt (by decide)) rfl ?_
                    refine sv_iload (pc := 92) 5 (sv_d k_Mo_shift 52 rfl) rfl ?_
                    refine sv_isub (pc := 94) (sv_d k_Mo_shift 53 rfl) ?_
                    refine sv_icmp_le (pc := 95) (tgt := 101) (sv_d k_Mo_shift 54 rfl) (by decide) ?_ ?_
                    · refine sv_iconst (pc := 101) (v := (0 : Int32)) (sv_d k_Mo_shift 57 rfl) (by decide) ?_
                      refine sv_istore (pc := 102) (lv' := [(6, .int (0 : Int32)), (0, sv_r E 187), (1, .int x1), (2, .int x2), (3, .int x3), (4, .int x4), (5, .int x5)]) (sv_d k_Mo_shift 58 rfl) (by decide) rfl ?_
                      exact sv_loc [1, 2, 3, 4, 5, 6, 0] rfl (V_Mo_shift_b104 E d ss_F x1 x2 x3 x4 x5 (0 : Int32) s)
                    · refine sv_bipush (pc := 98) (v := (-13 : Int32)) (sv_d k_Mo_shift 55 rfl) (by decide) ?_
                      exact sv_ret (pc := 100) (sv_d k_Mo_shift 56 rfl) ⟨_, rfl, rfl⟩ rfl
          · refine sv_bipush (pc := 54) (v := (-12 : Int32)) (sv_d k_Mo_shift 31 rfl) (by decide) ?_
            exact sv_ret (pc := 56) (sv_d k_Mo_shift 32 rfl) ⟨_, rfl, rfl⟩ rfl
        · refine sv_bipush (pc := 36) (v := (-11 : Int32)) (sv_d k_Mo_shift 20 rfl) (by decide) ?_
          exact sv_ret (pc := 38) (sv_d k_Mo_shift 21 rfl) ⟨_, rfl, rfl⟩ rfl
    · refine sv_iconst (pc := 16) (v := (-1 : Int32)) (sv_d k_Mo_shift 8 rfl) (by decide) ?_
      exact sv_ret (pc := 17) (sv_d k_Mo_shift 9 rfl) ⟨_, rfl, rfl⟩ rfl
