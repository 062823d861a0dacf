/-! Mo_in -/
abbrev m_Mo_in : sv_M := (yX12_in, cX12_in, 4, (some .boolean))
def t_Mo_in : List (Nat × Instr × Nat) := [(0, .iload_n 1, 1), (1, .iload_n 2, 1), (2, .if_icmp .lt 12, 3), (5, .iload_n 1, 1), (6, .iload_n 3, 1), (7, .if_icmp .gt 7, 3), (10, .iconst 1, 1), (11, .goto 4, 3), (14, .iconst 0, 1), (15, .ireturn, 1)]
theorem k_Mo_in : sv_tk m_Mo_in.2.1 t_Mo_in := by decide +kernel
theorem g_Mo_in : sv_G m_Mo_in 3 := ⟨by decide +kernel, sv_in 1548 (by decide +kernel) rfl, sv_in 103 (by decide +kernel) rfl, ⟨by decide, by decide⟩, by decide +kernel, by decide⟩
theorem in_Mo_in : Cond.instanceMethod m_Mo_in.1 ∈ sv_T := sv_in 1547 (by decide +kernel) rfl
theorem se_Mo_in : Cond.selects m_Mo_in.1.cls m_Mo_in.1 m_Mo_in.1 ∈ sv_T := sv_in 34 (by decide +kernel) rfl
def F_Mo_in (x1 : Int32) (x2 : Int32) (x3 : Int32) (s : sv_S) : Option (Int32) :=
  if x1 < x2 then
    some (0 : Int32)
  else
  if x3 < x1 then
    some (0 : Int32)
  else
  some (1 : Int32)
theorem V_Mo_in (E : sv_E) (d : Nat) (x1 : Int32) (x2 : Int32) (x3 : Int32) (s : sv_S) : sv_V E m_Mo_in (d + 0) (ss_pi s) 0 (lv_args 0 [sv_r E 187, .int x1, .int x2, .int x3]) [] (ss_e s) (F_Mo_in x1 x2 x3 s) := by
  show sv_V E m_Mo_in (d + 0) (ss_pi s) 0 [(0, sv_r E 187), (1, .int x1), (2, .int x2), (3, .int x3)] [] (ss_e s) _
  unfold F_Mo_in
  refine sv_iload_n (pc := 0) 1 (sv_d k_Mo_in 0 rfl) rfl rfl ?_
  refine sv_iload_n (pc := 1) 2 (sv_d k_Mo_in 1 rfl) rfl rfl ?_
  refine sv_icmp_lt (pc := 2) (tgt := 14) (sv_d k_Mo_in 2 rfl) (by decide) ?_ ?_
  · refine sv_iconst (pc := 14) (v := (0 : Int32)) (sv_d k_Mo_in 8 rfl) (by decide) ?_
    exact sv_ret (pc := 15) (sv_d k_Mo_in 9 rfl) ⟨_, rfl, rfl⟩ rfl
  · refine sv_iload_n (pc := 5) 1 (sv_d k_Mo_in 3 rfl) rfl rfl ?_
    refine sv_iload_n (pc := 6) 3 (sv_d k_Mo_in 4 rfl) rfl rfl ?_
    refine sv_icmp_gt (pc := 7) (tgt := 14) (sv_d k_Mo_in 5 rfl) (by decide) ?_ ?_
    · refine sv_iconst (pc := 14) (v := (0 : Int32)) (sv_d k_Mo_in 8 rfl) (by decide) ?_
      exact sv_ret (pc := 15) (sv_d k_Mo_in 9 rfl) ⟨_, rfl, rfl⟩ rfl
    · refine sv_iconst (pc := 10) (v := (1 : Int32)) (sv_d k_Mo_in 6 rfl) (by decide) ?_
      refine sv_goto (pc := 11) (tgt := 15) (sv_d k_Mo_in 7 rfl) (by decide) ?_
      exact sv_ret (pc := 15) (sv_d k_Mo_in 9 rfl) ⟨_, rfl, rfl⟩ rfl
/-! Mo_pass -/
abbrev m_Mo_pass : sv_M := (yX12_pass, cX12_pass, 2, (some .int))
def t_Mo_pass : List (Nat × Instr × Nat) := [(0, .aload_n 0, 1), (1, .iload_n 1, 1), (2, .iconst 1, 1), (3, .sipush 400, 3), (6, .invokevirtual 251, 3), (9, .ifCond .eq 15, 3), (12, .aload_n 0, 1), (13, .getfield 7, 3), (16, .iload_n 1, 1), (17, .iadd, 1), (18, .sipush 9999, 3), (21, .if_icmp .le 6, 3), (24, .bipush (-2), 2), (26, .ireturn, 1), (27, .aload_n 0, 1), (28, .dup, 1), (29, .getfield 7, 3), (32, .iload_n 1, 1), (33, .iadd, 1), (34, .putfield 7, 3), (37, .aload_n 0, 1), (38, .getfield 7, 3), (41, .ireturn, 1)]
theorem k_Mo_pass : sv_tk m_Mo_pass.2.1 t_Mo_pass := by decide +kernel
theorem g_Mo_pass : sv_G m_Mo_pass 1 := ⟨by decide +kernel, sv_in 1544 (by decide +kernel) rfl, sv_in 103 (by decide +kernel) rfl, ⟨by decide, by decide⟩, by decide +kernel, by decide⟩
theorem in_Mo_pass : Cond.instanceMethod m_Mo_pass.1 ∈ sv_T := sv_in 1542 (by decide +kernel) rfl
theorem se_Mo_pass : Cond.selects m_Mo_pass.1.cls m_Mo_pass.1 m_Mo_pass.1 ∈ sv_T := sv_in 1543 (by decide +kernel) rfl
def F_Mo_pass (x1 : Int32) (s : sv_S) : Option (Int32 × sv_S) :=
  (F_Mo_in x1 (1 : Int32) (400 : Int32) s).bind fun r1 =>
  if r1 = 0 then
    some ((-2 : Int32), s)
  else
  if ((s.1 187 0) + x1) ≤ (9999 : Int32) then
    ss_let (ss_setI s 187 0 ((s.1 187 0) + x1)) fun s2 =>
    some (s2.1 187 0, s2)
  else
  some ((-2 : Int32), s)
theorem V_Mo_pass (E : sv_E) (d : Nat) (x1 : Int32) (s : sv_S) : sv_V E m_Mo_pass (d + 1) ss_i 0 (lv_args 0 [sv_r E 187, .int x1]) [] (ss_e s) (F_Mo_pass x1 s) := by
  show sv_V E m_Mo_pass (d + 1) ss_i 0 [(0, sv_r E 187), (1, .int x1)] [] (ss_e s) _
  unfold F_Mo_pass
  refine sv_aload_n (pc := 0) 0 (sv_d k_Mo_pass 0 rfl) rfl rfl ?_
  refine sv_iload_n (pc := 1) 1 (sv_d k_Mo_pass 1 rfl) rfl rfl ?_
  refine sv_iconst (pc := 2) (v := (1 : Int32)) (sv_d k_Mo_pass 2 rfl) (by decide) ?_
  refine sv_sipush (pc := 3) (v := (400 : Int32)) (sv_d k_Mo_pass 3 rfl) (by decide) ?_
  refine sv_callV (pc := 6) (ψ := (ss_pi s)) (As := [.int x1, .int (1 : Int32), .int (400 : Int32)]) (rest := []) (c := 187) (sv_d k_Mo_pass 4 rfl) g_Mo_in w1545 in_Mo_in se_Mo_in cf12 kd187 (ss_lt (by decide)) rfl (Nat.le_of_ble_eq_true rfl) (V_Mo_in E (d + 0) x1 (1 : Int32) (400 : Int32) s) (Nat.le_of_ble_eq_true rfl) rfl (fun r1 => ?_)
  show sv_V E _ _ _ 9 _ [.int r1] (ss_e s) _
  refine sv_if_eq (pc := 9) (tgt := 24) (sv_d k_Mo_pass 5 rfl) (by decide) ?_ ?_
  · refine sv_bipush (pc := 24) (v := (-2 : Int32)) (sv_d k_Mo_pass 12 rfl) (by decide) ?_
    exact sv_ret (pc := 26) (sv_d k_Mo_pass 13 rfl) ⟨_, rfl, rfl⟩ rfl
  · refine sv_aload_n (pc := 12) 0 (sv_d k_Mo_pass 6 rfl) rfl rfl ?_
    refine sv_getf (pc := 13) 0 (sv_d k_Mo_pass 7 rfl) cf12 (by decide) w1302 kd187 (ss_lt (by decide)) rfl ?_
    refine sv_iload_n (pc := 16) 1 (sv_d k_Mo_pass 8 rfl) rfl rfl ?_
    refine sv_iadd (pc := 17) (sv_d k_Mo_pass 9 rfl) ?_
    refine sv_sipush (pc := 18) (v := (9999 : Int32)) (sv_d k_Mo_pass 10 rfl) (by decide) ?_
    refine sv_icmp_le (pc := 21) (tgt := 27) (sv_d k_Mo_pass 11 rfl) (by decide) ?_ ?_
    · refine sv_aload_n (pc := 27) 0 (sv_d k_Mo_pass 14 rfl) rfl rfl ?_
      refine sv_dup (pc := 28) (sv_d k_Mo_pass 15 rfl) rfl ?_
      refine sv_getf (pc := 29) 0 (sv_d k_Mo_pass 16 rfl) cf12 (by decide) w1302 kd187 (ss_lt (by decide)) rfl ?_
      refine sv_iload_n (pc := 32) 1 (sv_d k_Mo_pass 17 rfl) rfl rfl ?_
      refine sv_iadd (pc := 33) (sv_d k_Mo_pass 18 rfl) ?_
      refine ss_putI (pc := 34) 0 (sv_d k_Mo_pass 19 rfl) cf12 (by decide) rfl w1302 kd187 (ss_lt (by decide)) rfl rfl (fun _ => rfl) (ss_lets (fun s2 e_s2 => ?_))
      refine sv_aload_n (pc := 37) 0 (sv_d k_Mo_pass 20 rfl) rfl rfl ?_
      refine sv_getf (pc := 38) 0 (sv_d k_Mo_pass 21 rfl) cf12 (by decide) w1302 kd187 (ss_lt (by decide)) rfl ?_
      exact sv_ret (pc := 41) (sv_d k_Mo_pass 22 rfl) ⟨_, rfl, rfl⟩ rfl
    · refine sv_bipush (pc := 24) (v := (-2 : Int32)) (sv_d k_Mo_pass 12 rfl) (by decide) ?_
      exact sv_ret (pc := 26) (sv_d k_Mo_pass 13 rfl) ⟨_, rfl, rfl⟩ rfl
/-! Mo_isOwner -/
abbrev m_Mo_isOwner : sv_M := (yX12_isOwner, cX12_isOwner, 2, (some .boolean))
def t_Mo_isOwner : List (Nat × Instr × Nat) := [(0, .aload_n 0, 1), (1, .iload_n 1, 1), (2, .iconst 0, 1), (3, .iconst 5, 1), (4, .invokevirtual 251, 3), (7, .ireturn, 1)]
theorem k_Mo_isOwner : sv_tk m_Mo_isOwner.2.1 t_Mo_isOwner := by decide +kernel
theorem g_Mo_isOwner : sv_G m_Mo_isOwner 1 := ⟨by decide +kernel, sv_in 1556 (by decide +kernel) rfl, sv_in 103 (by decide +kernel) rfl, ⟨by decide, by decide⟩, by decide +kernel, by decide⟩
theorem in_Mo_isOwner : Cond.instanceMethod m_Mo_isOwner.1 ∈ sv_T := sv_in 1555 (by decide +kernel) rfl
theorem se_Mo_isOwner : Cond.selects m_Mo_isOwner.1.cls m_Mo_isOwner.1 m_Mo_isOwner.1 ∈ sv_T := sv_in 35 (by decide +kernel) rfl
def F_Mo_isOwner (x1 : Int32) (s : sv_S) : Option (Int32) :=
  (F_Mo_in x1 (0 : Int32) (5 : Int32) s).bind fun r1 =>
  if sv_bl r1 = true then some r1 else none
theorem V_Mo_isOwner (E : sv_E) (d : Nat) (x1 : Int32) (s : sv_S) : sv_V E m_Mo_isOwner (d + 1) (ss_pi s) 0 (lv_args 0 [sv_r E 187, .int x1]) [] (ss_e s) (F_Mo_isOwner x1 s) := by
  show sv_V E m_Mo_isOwner (d + 1) (ss_pi s) 0 [(0, sv_r E 187), (1, .int x1)] [] (ss_e s) _
  unfold F_Mo_isOwner
  refine sv_aload_n (pc := 0) 0 (sv_d k_Mo_isOwner 0 rfl) rfl rfl ?_
  refine sv_iload_n (pc := 1) 1 (sv_d k_Mo_isOwner 1 rfl) rfl rfl ?_
  refine sv_iconst (pc := 2) (v := (0 : Int32)) (sv_d k_Mo_isOwner 2 rfl) (by decide) ?_
  refine sv_iconst (pc := 3) (v := (5 : Int32)) (sv_d k_Mo_isOwner 3 rfl) (by decide) ?_
  refine sv_callV (pc := 4) (ψ := (ss_pi s)) (As := [.int x1, .int (0 : Int32), .int (5 : Int32)]) (rest := []) (c := 187) (sv_d k_Mo_isOwner 4 rfl) g_Mo_in w1545 in_Mo_in se_Mo_in cf12 kd187 (ss_lt (by decide)) rfl (Nat.le_of_ble_eq_true rfl) (V_Mo_in E (d + 0) x1 (0 : Int32) (5 : Int32) s) (Nat.le_of_ble_eq_true rfl) rfl (fun r1 => ?_)
  show sv_V E _ _ _ 7 _ [.int r1] (ss_e s) _
  exact ss_grd (fun bb2 => sv_ret (pc := 7) (sv_d k_Mo_isOwner 5 rfl) ⟨_, rfl, sv_bln bb2⟩ rfl)
/-! Mo_isStation -/
abbrev m_Mo_isStation : sv_M := (yX12_isStation, cX12_isStation, 2, (some .boolean))
def t_Mo_isStation : List (Nat × Instr × Nat) := [(0, .aload_n 0, 1), (1, .iload_n 1, 1), (2, .iconst 0, 1), (3, .bipush 15, 2), (5, .invokevirtual 251, 3), (8, .ireturn, 1)]
theorem k_Mo_isStation : sv_tk m_Mo_isStation.2.1 t_Mo_isStation := by decide +kernel
theorem g_Mo_isStation : sv_G m_Mo_isStation 1 := ⟨by decide +kernel, sv_in 1560 (by decide +kernel) rfl, sv_in 103 (by decide +kernel) rfl, ⟨by decide, by decide⟩, by decide +kernel, by decide⟩
theorem in_Mo_isStation : Cond.instanceMethod m_Mo_isStation.1 ∈ sv_T := sv_in 1559 (by decide +kernel) rfl
theorem se_Mo_isStation : Cond.selects m_Mo_isStation.1.cls m_Mo_isStation.1 m_Mo_isStation.1 ∈ sv_T := sv_in 36 (by decide +kernel) rfl
def F_Mo_isStation (x1 : Int32) (s : sv_S) : Option (Int32) :=
  (F_Mo_in x1 (0 : Int32) (15 : Int32) s).bind fun r1 =>
  if sv_bl r1 = true then some r1 else none
theorem V_Mo_isStation (E : sv_E) (d : Nat) (x1 : Int32) (s : sv_S) : sv_V E m_Mo_isStation (d + 1) (ss_pi s) 0 (lv_args 0 [sv_r E 187, .int x1]) [] (ss_e s) (F_Mo_isStation x1 s) := by
  show sv_V E m_Mo_isStation (d + 1) (ss_pi s) 0 [(0, sv_r E 187), (1, .int x1)] [] (ss_e s) _
  unfold F_Mo_isStation
  refine sv_aload_n (pc := 0) 0 (sv_d k_Mo_isStation 0 rfl) rfl rfl ?_
  refine sv_iload_n (pc := 1) 1 (sv_d k_Mo_isStation 1 rfl) rfl rfl ?_
  refine sv_iconst (pc := 2) (v := (0 : Int32)) (sv_d k_Mo_isStation 2 rfl) (by decide) ?_
  refine sv_bipush (pc := 3) (v := (15 : Int32)) (sv_d k_Mo_isStation 3 rfl) (by decide) ?_
  refine sv_callV (pc := 5) (ψ := (ss_pi s)) (As := [.int x1, .int (0 : Int32), .int (15 : Int32)]) (rest := []) (c := 187) (sv_d k_Mo_isStation 4 rfl) g_Mo_in w1545 in_Mo_in se_Mo_in cf12 kd187 (ss_lt (by decide)) rfl (Nat.le_of_ble_eq_true rfl) (V_Mo_in E (d + 0) x1 (0 : Int32) (15 : Int32) s) (Nat.le_of_ble_eq_true rfl) rfl (fun r1 => ?_)
  show sv_V E _ _ _ 8 _ [.int r1] (ss_e s) _
  exact ss_grd (fun bb2 => sv_ret (pc := 8) (sv_d k_Mo_isStation 5 rfl) ⟨_, rfl, sv_bln bb2⟩ rfl)
/-! Mo_line -/
abbrev m_Mo_line : sv_M := (yX12_line, cX12_line, 5, (some .int))
def t_Mo_line : List (Nat × Instr × Nat) := [(0, .aload_n 0, 1), (1, .iload_n 1, 1), (2, .invokevirtual 255, 3), (5, .ifCond .eq 19, 3), (8, .aload_n 0, 1), (9, .iload_n 2, 1), (10, .invokevirtual 259, 3), (13, .ifCond .eq 11, 3), (16, .aload_n 0, 1), (17, .iload_n 3, 1), (18, .invokevirtual 259, 3), (21, .ifCond .ne 5, 3), (24, .iconst (-1), 1), (25, .ireturn, 1), (26, .iload_n 2, 1), (27, .iload_n 3, 1), (28, .if_icmp .eq 16, 3), (31, .aload_n 0, 1), (32, .iload 4, 2), (34, .iconst 1, 1), (35, .sipush 200, 3), (38, .invokevirtual 251, 3), (41, .ifCond .ne 6, 3), (44, .bipush (-2), 2), (46, .ireturn, 1), (47, .aload_n 0, 1), (48, .getfield 13, 3), (51, .bipush 40, 2), (53, .if_icmp .ne 6, 3), (56, .bipush (-4), 2), (58, .ireturn, 1), (59, .aload_n 0, 1), (60, .getfield 16, 3), (63, .aload_n 0, 1), (64, .getfield 13, 3), (67, .iload_n 1, 1), (68, .iastore, 1), (69, .aload_n 0, 1), (70, .getfield 20, 3), (73, .aload_n 0, 1), (74, .getfield 13, 3), (77, .iload_n 2, 1), (78, .iastore, 1), (79, .aload_n 0, 1), (80, .getfield 23, 3), (83, .aload_n 0, 1), (84, .getfield 13, 3), (87, .iload_n 3, 1), (88, .iastore, 1), (89, .aload_n 0, 1), (90, .getfield 26, 3), (93, .aload_n 0, 1), (94, .getfield 13, 3), (97, .iload 4, 2), (99, .iastore, 1), (100, .aload_n 0, 1), (101, .dup, 1), (102, .getfield 13, 3), (105, .iconst 1, 1), (106, .iadd, 1), (107, .putfield 13, 3), (110, .aload_n 0, 1), (111, .getfield 13, 3), (114, .iconst 1, 1), (115, .isub, 1), (116, .ireturn, 1)]
theorem k_Mo_line : sv_tk m_Mo_line.2.1 t_Mo_line := by decide +kernel
theorem g_Mo_line : sv_G m_Mo_line 4 := ⟨by decide +kernel, sv_in 1552 (by decide +kernel) rfl, sv_in 103 (by decide +kernel) rfl, ⟨by decide, by decide⟩, by decide +kernel, by decide⟩
theorem in_Mo_line : Cond.instanceMethod m_Mo_line.1 ∈ sv_T := sv_in 1550 (by decide +kernel) rfl
theorem se_Mo_line : Cond.selects m_Mo_line.1.cls m_Mo_line.1 m_Mo_line.1 ∈ sv_T := sv_in 1551 (by decide +kernel) rfl
def F_Mo_line (x1 : Int32) (x2 : Int32) (x3 : Int32) (x4 : Int32) (s : sv_S) : Option (Int32 × sv_S) :=
  (F_Mo_isOwner x1 s).bind fun r1 =>
  if r1 = 0 then
    some ((-1 : Int32), s)
  else
  (F_Mo_isStation x2 s).bind fun r2 =>
  if r2 = 0 then
    some ((-1 : Int32), s)
  else
  (F_Mo_isStation x3 s).bind fun r3 =>
  if r3 = 0 then
    some ((-1 : Int32), s)
  else
  if x2 = x3 then
    some ((-2 : Int32), s)
  else
  (F_Mo_in x4 (1 : Int32) (200 : Int32) s).bind fun r4 =>
  if r4 = 0 then
    some ((-2 : Int32), s)
  else
  if (s.1 187 1) = (40 : Int32) then
    some ((-4 : Int32), s)
  else
  if sv_ib (s.1 187 1) 40 = true then
    ss_let (ss_setI s 188 (s.1 187 1).toNatClampNeg x1) fun s5 =>
    if sv_ib (s5.1 187 1) 40 = true then
      ss_let (ss_setI s5 189 (s5.1 187 1).toNatClampNeg x2) fun s6 =>
      if sv_ib (s6.1 187 1) 40 = true then
        ss_let (ss_setI s6 190 (s6.1 187 1).toNatClampNeg x3) fun s7 =>
        if sv_ib (s7.1 187 1) 40 = true then
          ss_let (ss_setI s7 191 (s7.1 187 1).toNatClampNeg x4) fun s8 =>
          ss_let (ss_setI s8 187 1 ((s8.1 187 1) + (1 : Int32))) fun s9 =>
          some ((s9.1 187 1) - (1 : Int32), s9)
        else none
      else none
    else none
  else none
theorem V_Mo_line (E : sv_E) (d : Nat) (x1 : Int32) (x2 : Int32) (x3 : Int32) (x4 : Int32) (s : sv_S) : sv_V E m_Mo_line (d + 2) ss_i 0 (lv_args 0 [sv_r E 187, .int x1, .int x2, .int x3, .int x4]) [] (ss_e s) (F_Mo_line x1 x2 x3 x4 s) := by
  show sv_V E m_Mo_line (d + 2) ss_i 0 [(0, sv_r E 187), (1, .int x1), (2, .int x2), (3, .int x3), (4, .int x4)] [] (ss_e s) _
  unfold F_Mo_line
  refine sv_aload_n (pc := 0) 0 (sv_d k_Mo_line 0 rfl) rfl rfl ?_
  refine sv_iload_n (pc := 1) 1 (sv_d k_Mo_line 1 rfl) rfl rfl ?_
  refine sv_callV (pc := 2) (ψ := (ss_pi s)) (As := [.int x1]) (rest := []) (c := 187) (sv_d k_Mo_line 2 rfl) g_Mo_isOwner w1553 in_Mo_isOwner se_Mo_isOwner cf12 kd187 (ss_lt (by decide)) rfl (Nat.le_of_ble_eq_true rfl) (V_Mo_isOwner E (d + 0) x1 s) (Nat.le_of_ble_eq_true rfl) rfl (fun r1 => ?_)
  show sv_V E _ _ _ 5 _ [.int r1] (ss_e s) _
  refine sv_if_eq (pc := 5) (tgt := 24) (sv_d k_Mo_line 3 rfl) (by decide) ?_ ?_
  · refine sv_iconst (pc := 24) (v := (-1 : Int32)) (sv_d k_Mo_line 12 rfl) (by decide) ?_
    exact sv_ret (pc := 25) (sv_d k_Mo_line 13 rfl) ⟨_, rfl, rfl⟩ rfl
  · refine sv_aload_n (pc := 8) 0 (sv_d k_Mo_line 4 rfl) rfl rfl ?_
    refine sv_iload_n (pc := 9) 2 (sv_d k_Mo_line 5 rfl) rfl rfl ?_
    refine sv_callV (pc := 10) (ψ := (ss_pi s)) (As := [.int x2]) (rest := []) (c := 187) (sv_d k_Mo_line 6 rfl) g_Mo_isStation w1557 in_Mo_isStation se_Mo_isStation cf12 kd187 (ss_lt (by decide)) rfl (Nat.le_of_ble_eq_true rfl) (V_Mo_isStation E (d + 0) x2 s) (Nat.le_of_ble_eq_true rfl) rfl (fun r2 => ?_)
    show sv_V E _ _ _ 13 _ [.int r2] (ss_e s) _
    refine sv_if_eq (pc := 13) (tgt := 24) (sv_d k_Mo_line 7 rfl) (by decide) ?_ ?_
    · refine sv_iconst (pc := 24) (v := (-1 : Int32)) (sv_d k_Mo_line 12 rfl) (by decide) ?_
      exact sv_ret (pc := 25) (sv_d k_Mo_line 13 rfl) ⟨_, rfl, rfl⟩ rfl
    · refine sv_aload_n (pc := 16) 0 (sv_d k_Mo_line 8 rfl) rfl rfl ?_
      refine sv_iload_n (pc := 17) 3 (sv_d k_Mo_line 9 rfl) rfl rfl ?_
      refine sv_callV (pc := 18) (ψ := (ss_pi s)) (As := [.int x3]) (rest := []) (c := 187) (sv_d k_Mo_line 10 rfl) g_Mo_isStation w1557 in_Mo_isStation se_Mo_isStation cf12 kd187 (ss_lt (by decide)) rfl (Nat.le_of_ble_eq_true rfl) (V_Mo_isStation E (d + 0) x3 s) (Nat.le_of_ble_eq_true rfl) rfl (fun r3 => ?_)
      show sv_V E _ _ _ 21 _ [.int r3] (ss_e s) _
      refine sv_if_ne (pc := 21) (tgt := 26) (sv_d k_Mo_line 11 rfl) (by decide) ?_ ?_
      · refine sv_iload_n (pc := 26) 2 (sv_d k_Mo_line 14 rfl) rfl rfl ?_
        refine sv_iload_n (pc := 27) 3 (sv_d k_Mo_line 15 rfl) rfl rfl ?_
        refine sv_icmp_eq (pc := 28) (tgt := 44) (sv_d k_Mo_line 16 rfl) (by decide) ?_ ?_
        · refine sv_bipush (pc := 44) (v := (-2 : Int32)) (sv_d k_Mo_line 23 rfl) (by decide) ?_
          exact sv_ret (pc := 46) (sv_d k_Mo_line 24 rfl) ⟨_, rfl, rfl⟩ rfl
        · refine sv_aload_n (pc := 31) 0 (sv_d k_Mo_line 17 rfl) rfl rfl ?_
          refine sv_iload (pc := 32) 4 (sv_d k_Mo_line 18 rfl) rfl ?_
          refine sv_iconst (pc := 34) (v := (1 : Int32)) (sv_d k_Mo_line 19 rfl) (by decide) ?_
          refine sv_sipush (pc := 35) (v := (200 : Int32)) (sv_d k_Mo_line 20 rfl) (by decide) ?_
          refine sv_callV (pc := 38) (ψ := (ss_pi s)) (As := [.int x4, .int (1 : Int32), .int (200 : Int32)]) (rest := []) (c := 187) (sv_d k_Mo_line 21 rfl) g_Mo_in w1545 in_Mo_in se_Mo_in cf12 kd187 (ss_lt (by decide)) rfl (Nat.le_of_ble_eq_true rfl) (V_Mo_in E (d + 1) x4 (1 : Int32) (200 : Int32) s) (Nat.le_of_ble_eq_true rfl) rfl (fun r4 => ?_)
          show sv_V E _ _ _ 41 _ [.int r4] (ss_e s) _
          refine sv_if_ne (pc := 41) (tgt := 47) (sv_d k_Mo_line 22 rfl) (by decide) ?_ ?_
          · refine sv_aload_n (pc := 47) 0 (sv_d k_Mo_line 25 rfl) rfl rfl ?_
            refine sv_getf (pc := 48) 1 (sv_d k_Mo_line 26 rfl) cf12 (by decide) w1303 kd187 (ss_lt (by decide)) rfl ?_
            refine sv_bipush (pc := 51) (v := (40 : Int32)) (sv_d k_Mo_line 27 rfl) (by decide) ?_
            refine sv_icmp_ne (pc := 53) (tgt := 59) (sv_d k_Mo_line 28 rfl) (by decide) ?_ ?_
            · refine sv_aload_n (pc := 59) 0 (sv_d k_Mo_line 31 rfl) rfl rfl ?_
              refine sv_getf (pc := 60) 2 (sv_d k_Mo_line 32 rfl) cf12 (by decide) w1304 kd187 (ss_lt (by decide)) (lr_187_2 E _) ?_
              refine sv_aload_n (pc := 63) 0 (sv_d k_Mo_line 33 rfl) rfl rfl ?_
              refine sv_getf (pc := 64) 1 (sv_d k_Mo_line 34 rfl) cf12 (by decide) w1303 kd187 (ss_lt (by decide)) rfl ?_
              refine sv_iload_n (pc := 67) 1 (sv_d k_Mo_line 35 rfl) rfl rfl ?_
              refine ss_iast (pc := 68) (n := 40) (sv_d k_Mo_line 36 rfl) kd188 (by decide) (ss_lt (by decide)) rfl (ss_lets (fun s5 e_s5 => ?_))
              refine sv_aload_n (pc := 69) 0 (sv_d k_Mo_line 37 rfl) rfl rfl ?_
              refine sv_getf (pc := 70) 3 (sv_d k_Mo_line 38 rfl) cf12 (by decide) w1305 kd187 (ss_lt (by decide)) (lr_187_3 E _) ?_
              refine sv_aload_n (pc := 73) 0 (sv_d k_Mo_line 39 rfl) rfl rfl ?_
              refine sv_getf (pc := 74) 1 (sv_d k_Mo_line 40 rfl) cf12 (by decide) w1303 kd187 (ss_lt (by decide)) rfl ?_
              refine sv_iload_n (pc := 77) 2 (sv_d k_Mo_line 41 rfl) rfl rfl ?_
              refine ss_iast (pc := 78) (n := 40) (sv_d k_Mo_line 42 rfl) kd189 (by decide) (ss_lt (by decide)) rfl (ss_lets (fun s6 e_s6 => ?_))
              refine sv_aload_n (pc := 79) 0 (sv_d k_Mo_line 43 rfl) rfl rfl ?_
              refine sv_getf (pc := 80) 4 (sv_d k_Mo_line 44 rfl) cf12 (by decide) w1306 kd187 (ss_lt (by decide)) (lr_187_4 E _) ?_
              refine sv_aload_n (pc := 83) 0 (sv_d k_Mo_line 45 rfl) rfl rfl ?_
              refine sv_getf (pc := 84) 1 (sv_d k_Mo_line 46 rfl) cf12 (by decide) w1303 kd187 (ss_lt (by decide)) rfl ?_
              refine sv_iload_n (pc := 87) 3 (sv_d k_Mo_line 47 rfl) rfl rfl ?_
              refine ss_iast (pc := 88) (n := 40) (sv_d k_Mo_line 48 rfl) kd190 (by decide) (ss_lt (by decide)) rfl (ss_lets (fun s7 e_s7 => ?_))
              refine sv_aload_n (pc := 89) 0 (sv_d k_Mo_line 49 rfl) rfl rfl ?_
              refine sv_getf (pc := 90) 5 (sv_d k_Mo_line 50 rfl) cf12 (by decide) w1307 kd187 (ss_lt (by decide)) (lr_187_5 E _) ?_
              refine sv_aload_n (pc := 93) 0 (sv_d k_Mo_line 51 rfl) rfl rfl ?_
              refine sv_getf (pc := 94) 1 (sv_d k_Mo_line 52 rfl) cf12 (by decide) w1303 kd187 (ss_lt (by decide)) rfl ?_
              refine sv_iload (pc := 97) 4 (sv_d k_Mo_line 53 rfl) rfl ?_
              refine ss_iast (pc := 99) (n := 40) (sv_d k_Mo_line 54 rfl) kd191 (by decide) (ss_lt (by decide)) rfl (ss_lets (fun s8 e_s8 => ?_))
              refine sv_aload_n (pc := 100) 0 (sv_d k_Mo_line 55 rfl) rfl rfl ?_
              refine sv_dup (pc := 101) (sv_d k_Mo_line 56 rfl) rfl ?_
              refine sv_getf (pc := 102) 1 (sv_d k_Mo_line 57 rfl) cf12 (by decide) w1303 kd187 (ss_lt (by decide)) rfl ?_
              refine sv_iconst (pc := 105) (v := (1 : Int32)) (sv_d k_Mo_line 58 rfl) (by decide) ?_
              refine sv_iadd (pc := 106) (sv_d k_Mo_line 59 rfl) ?_
              refine ss_putI (pc := 107) 1 (sv_d k_Mo_line 60 rfl) cf12 (by decide) rfl w1303 kd187 (ss_lt (by decide)) rfl rfl (fun _ => rfl) (ss_lets (fun s9 e_s9 => ?_))
              refine sv_aload_n (pc := 110) 0 (sv_d k_Mo_line 61 rfl) rfl rfl ?_
              refine sv_getf (pc := 111) 1 (sv_d k_Mo_line 62 rfl) cf12 (by decide) w1303 kd187 (ss_lt (by decide)) rfl ?_
              refine sv_iconst (pc := 114) (v := (1 : Int32)) (sv_d k_Mo_line 63 rfl) (by decide) ?_
              refine sv_isub (pc := 115) (sv_d k_Mo_line 64 rfl) ?_
              exact sv_ret (pc := 116) (sv_d k_Mo_line 65 rfl) ⟨_, rfl, rfl⟩ rfl
            · refine sv_bipush (pc := 56) (v := (-4 : Int32)) (sv_d k_Mo_line 29 rfl) (by decide) ?_
              exact sv_ret (pc := 58) (sv_d k_Mo_line 30 rfl) ⟨_, rfl, rfl⟩ rfl
          · refine sv_bipush (pc := 44) (v := (-2 : Int32)) (sv_d k_Mo_line 23 rfl) (by decide) ?_
            exact sv_ret (pc := 46) (sv_d k_Mo_line 24 rfl) ⟨_, rfl, rfl⟩ rfl
      · refine sv_iconst (pc := 24) (v := (-1 : Int32)) (sv_d k_Mo_line 12 rfl) (by decide) ?_
        exact sv_ret (pc := 25) (sv_d k_Mo_line 13 rfl) ⟨_, rfl, rfl⟩ rfl
/-! Mo_findFar -/
abbrev m_Mo_findFar : sv_M := (yX12_findFar, cX12_findFar, 6, none)
def t_Mo_findFar : List (Nat × Instr × Nat) := [(0, .iconst 0, 1), (1, .istore_n 2, 1), (2, .iload_n 2, 1), (3, .sipush 256, 3), (6, .if_icmp .ge 33, 3), (9, .aload_n 0, 1), (10, .getfield 32, 3), (13, .iload_n 2, 1), (14, .iload_n 2, 1), (15, .bipush 16, 2), (17, .idiv, 1), (18, .iload_n 2, 1), (19, .bipush 16, 2), (21, .irem, 1), (22, .if_icmp .ne 7, 3), (25, .iconst 0, 1), (26, .goto 6, 3), (29, .ldc_w 262, 3), (32, .iastore, 1), (33, .iinc 2 1, 3), (36, .goto (-34), 3), (39, .iconst 0, 1), (40, .istore_n 2, 1), (41, .iload_n 2, 1), (42, .aload_n 0, 1), (43, .getfield 13, 3), (46, .if_icmp .ge 100, 3), (49, .iload_n 1, 1), (50, .ifCond .lt 16, 3), (53, .aload_n 0, 1), (54, .getfield 16, 3), (57, .iload_n 2, 1), (58, .iaload, 1), (59, .iload_n 1, 1), (60, .if_icmp .eq 6, 3), (63, .goto 77, 3), (66, .bipush 16, 2), (68, .aload_n 0, 1), (69, .getfield 20, 3), (72, .iload_n 2, 1), (73, .iaload, 1), (74, .imul, 1), (75, .aload_n 0, 1), (76, .getfield 23, 3), (79, .iload_n 2, 1), (80, .iaload, 1), (81, .iadd, 1), (82, .istore_n 3, 1), (83, .aload_n 0, 1), (84, .getfield 26, 3), (87, .iload_n 2, 1), (88, .iaload, 1), (89, .aload_n 0, 1), (90, .getfield 32, 3), (93, .iload_n 3, 1), (94, .iaload, 1), (95, .if_icmp .lt 6, 3), (98, .goto 42, 3), (101, .aload_n 0, 1), (102, .getfield 32, 3), (105, .iload_n 3, 1), (106, .aload_n 0, 1), (107, .getfield 26, 3), (110, .iload_n 2, 1), (111, .iaload, 1), (112, .iastore, 1), (113, .aload_n 0, 1), (114, .getfield 32, 3), (117, .bipush 16, 2), (119, .aload_n 0, 1), (120, .getfield 23, 3), (123, .iload_n 2, 1), (124, .iaload, 1), (125, .imul, 1), (126, .aload_n 0, 1), (127, .getfield 20, 3), (130, .iload_n 2, 1), (131, .iaload, 1), (132, .iadd, 1), (133, .aload_n 0, 1), (134, .getfield 26, 3), (137, .iload_n 2, 1), (138, .iaload, 1), (139, .iastore, 1), (140, .iinc 2 1, 3), (143, .goto (-102), 3), (146, .iconst 0, 1), (147, .istore_n 2, 1), (148, .iload_n 2, 1), (149, .sipush 256, 3), (152, .if_icmp .ge 21, 3), (155, .aload_n 0, 1), (156, .getfield 29, 3), (159, .iload_n 2, 1), (160, .aload_n 0, 1), (161, .getfield 32, 3), (164, .iload_n 2, 1), (165, .iaload, 1), (166, .iastore, 1), (167, .iinc 2 1, 3), (170, .goto (-22), 3), (173, .iconst 0, 1), (174, .istore_n 2, 1), (175, .iload_n 2, 1), (176, .bipush 16, 2), (178, .if_icmp .ge 96, 3), (181, .iconst 0, 1), (182, .istore_n 3, 1), (183, .iload_n 3, 1), (184, .bipush 16, 2), (186, .if_icmp .ge 82, 3), (189, .iconst 0, 1), (190, .istore 4, 2), (192, .iload 4, 2), (194, .bipush 16, 2), (196, .if_icmp .ge 66, 3), (199, .aload_n 0, 1), (200, .getfield 29, 3), (203, .bipush 16, 2), (205, .iload_n 3, 1), (206, .imul, 1), (207, .iload_n 2, 1), (208, .iadd, 1), (209, .iaload, 1), (210, .aload_n 0, 1), (211, .getfield 29, 3), (214, .bipush 16, 2), (216, .iload_n 2, 1), (217, .imul, 1), (218, .iload 4, 2), (220, .iadd, 1), (221, .iaload, 1), (222, .iadd, 1), (223, .istore 5, 2), (225, .iload 5, 2), (227, .aload_n 0, 1), (228, .getfield 29, 3), (231, .bipush 16, 2), (233, .iload_n 3, 1), (234, .imul, 1), (235, .iload 4, 2), (237, .iadd, 1), (238, .iaload, 1), (239, .if_icmp .ge 17, 3), (242, .aload_n 0, 1), (243, .getfield 29, 3), (246, .bipush 16, 2), (248, .iload_n 3, 1), (249, .imul, 1), (250, .iload 4, 2), (252, .iadd, 1), (253, .iload 5, 2), (255, .iastore, 1), (256, .iinc 4 1, 3), (259, .goto (-67), 3), (262, .iinc 3 1, 3), (265, .goto (-82), 3), (268, .iinc 2 1, 3), (271, .goto (-96), 3), (274, .return_, 1)]
theorem k_Mo_findFar : sv_tk m_Mo_findFar.2.1 t_Mo_findFar := by decide +kernel
theorem g_Mo_findFar : sv_G m_Mo_findFar 1 := ⟨by decide +kernel, sv_in 1572 (by decide +kernel) rfl, sv_in 103 (by decide +kernel) rfl, ⟨by decide, by decide⟩, by decide +kernel, by decide⟩
theorem in_Mo_findFar : Cond.instanceMethod m_Mo_findFar.1 ∈ sv_T := sv_in 1571 (by decide +kernel) rfl
theorem se_Mo_findFar : Cond.selects m_Mo_findFar.1.cls m_Mo_findFar.1 m_Mo_findFar.1 ∈ sv_T := sv_in 38 (by decide +kernel) rfl
def F_Mo_findFar_b256 (kc175 : Int32 → sv_S → Option (sv_S)) (kc183 : Int32 → Int32 → sv_S → Option (sv_S)) (kc192 : Int32 → Int32 → Int32 → sv_S → Option (sv_S)) (x2 : Int32) (x3 : Int32) (x4 : Int32) (s : sv_S) : Option (sv_S) :=
  ss_let (x4 + (1 : Int32)) fun v4 =>
  kc192 x2 x3 v4 s
theorem V_Mo_findFar_b256 (E : sv_E) (d : Nat) (kc175 : Int32 → sv_S → Option (sv_S)) (kc183 : Int32 → Int32 → sv_S → Option (sv_S)) (kc192 : Int32 → Int32 → Int32 → sv_S → Option (sv_S)) (hc175 : ∀ (x2 : Int32) (s : sv_S), sv_V E m_Mo_findFar (d + 0) ss_v 175 [(0, sv_r E 187), (2, .int x2)] [] (ss_e s) (kc175 x2 s)) (hc183 : ∀ (x2 : Int32) (x3 : Int32) (s : sv_S), sv_V E m_Mo_findFar (d + 0) ss_v 183 [(0, sv_r E 187), (2, .int x2), (3, .int x3)] [] (ss_e s) (kc183 x2 x3 s)) (hc192 : ∀ (x2 : Int32) (x3 : Int32) (x4 : Int32) (s : sv_S), sv_V E m_Mo_findFar (d + 0) ss_v 192 [(0, sv_r E 187), (2, .int x2), (3, .int x3), (4, .int x4)] [] (ss_e s) (kc192 x2 x3 x4 s)) (x2 : Int32) (x3 : Int32) (x4 : Int32) (s : sv_S) : sv_V E m_Mo_findFar (d + 0) ss_v 256 [(0, sv_r E 187), (2, .int x2), (3, .int x3), (4, .int x4)] [] (ss_e s) (F_Mo_findFar_b256 kc175 kc183 kc192 x2 x3 x4 s) := by
  unfold F_Mo_findFar_b256
  refine ss_letr (fun v4 e_v4 => ?_)
  refine sv_iinc (pc := 256) (v := v4) (lv' := [(4, .int v4), (0, sv_r E 187), (2, .int x2), (3, .int x3)]) (sv_d k_Mo_findFar 153 rfl) (n := 3) rfl (by rw [e_v4]; rfl) (by decide) rfl ?_
  refine sv_goto (pc := 259) (tgt := 192) (sv_d k_Mo_findFar 154 rfl) (by decide) ?_
  exact sv_loc [1, 2, 3, 0] rfl (hc192 x2 x3 v4 s)
def F_Mo_findFar_b192 (kc175 : Int32 → sv_S → Option (sv_S)) (kc183 : Int32 → Int32 → sv_S → Option (sv_S)) : Nat → Int32 → Int32 → Int32 → sv_S → Option (sv_S)
  | 0 => fun _ _ _ _ => none
  | n + 1 => fun x2 x3 x4 s =>
    if (16 : Int32) ≤ x4 then
      ss_let (x3 + (1 : Int32)) fun v2 =>
      kc183 x2 v2 s
    else
    if sv_ib (((16 : Int32) * x3) + x2) 256 = true then
      if sv_ib (((16 : Int32) * x2) + x4) 256 = true then
        ss_let ((s.1 192 (((16 : Int32) * x3) + x2).toNatClampNeg) + (s.1 192 (((16 : Int32) * x2) + x4).toNatClampNeg)) fun v3 =>
        if sv_ib (((16 : Int32) * x3) + x4) 256 = true then
          if (s.1 192 (((16 : Int32) * x3) + x4).toNatClampNeg) ≤ v3 then
            F_Mo_findFar_b256 kc175 kc183 (F_Mo_findFar_b192 kc175 kc183 n) x2 x3 x4 s
          else
          if sv_ib (((16 : Int32) * x3) + x4) 256 = true then
            ss_let (ss_setI s 192 (((16 : Int32) * x3) + x4).toNatClampNeg v3) fun s5 =>
            F_Mo_findFar_b256 kc175 kc183 (F_Mo_findFar_b192 kc175 kc183 n) x2 x3 x4 s5
          else none
        else none
      else none
    else none
theorem V_Mo_findFar_b192 (E : sv_E) (d : Nat) (kc175 : Int32 → sv_S → Option (sv_S)) (kc183 : Int32 → Int32 → sv_S → Option (sv_S)) (hc175 : ∀ (x2 : Int32) (s : sv_S), sv_V E m_Mo_findFar (d + 0) ss_v 175 [(0, sv_r E 187), (2, .int x2)] [] (ss_e s) (kc175 x2 s)) (hc183 : ∀ (x2 : Int32) (x3 : Int32) (s : sv_S), sv_V E m_Mo_findFar (d + 0) ss_v 183 [(0, sv_r E 187), (2, .int x2), (3, .int x3)] [] (ss_e s) (kc183 x2 x3 s)) : ∀ (n : Nat) (x2 : Int32) (x3 : Int32) (x4 : Int32) (s : sv_S), sv_V E m_Mo_findFar (d + 0) ss_v 192 [(0, sv_r E 187), (2, .int x2), (3, .int x3), (4, .int x4)] [] (ss_e s) (F_Mo_findFar_b192 kc175 kc183 n x2 x3 x4 s) := by
  intro n
  induction n with
  | zero => intro x2 x3 x4 s; exact sv_none
  | succ n ih =>
    intro x2 x3 x4 s
    unfold F_Mo_findFar_b192
    refine sv_iload (pc := 192) 3 (sv_d k_Mo_findFar 113 rfl) rfl ?_
    refine sv_bipush (pc := 194) (v := (16 : Int32)) (sv_d k_Mo_findFar 114 rfl) (by decide) ?_
    refine sv_icmp_ge (pc := 196) (tgt := 262) (sv_d k_Mo_findFar 115 rfl) (by decide) ?_ ?_
    · refine ss_letr (fun v2 e_v2 => ?_)
      refine sv_iinc (pc := 262) (v := v2) (lv' := [(3, .int v2), (0, sv_r E 187), (2, .int x2), (4, .int x4)]) (sv_d k_Mo_findFar 155 rfl) (n := 2) rfl (by rw [e_v2]; rfl) (by decide) rfl ?_
      refine sv_goto (pc := 265) (tgt := 183) (sv_d k_Mo_findFar 156 rfl) (by decide) ?_
      exact sv_loc [1, 2, 0] rfl (hc183 x2 v2 s)
    · refine sv_aload_n (pc := 199) 0 (sv_d k_Mo_findFar 116 rfl) rfl rfl ?_
      refine sv_getf (pc := 200) 6 (sv_d k_Mo_findFar 117 rfl) cf12 (by decide) w1308 kd187 (ss_lt (by decide)) (lr_187_6 E _) ?_
      refine sv_bipush (pc := 203) (v := (16 : Int32)) (sv_d k_Mo_findFar 118 rfl) (by decide) ?_
      refine sv_iload_n (pc := 205) 2 (sv_d k_Mo_findFar 119 rfl) rfl rfl ?_
      refine sv_imul (pc := 206) (sv_d k_Mo_findFar 120 rfl) ?_
      refine sv_iload_n (pc := 207) 1 (sv_d k_Mo_findFar 121 rfl) rfl rfl ?_
      refine sv_iadd (pc := 208) (sv_d k_Mo_findFar 122 rfl) ?_
      refine ss_iald (pc := 209) (n := 256) (sv_d k_Mo_findFar 123 rfl) kd192 (ss_lt (by decide)) rfl ?_
      refine sv_aload_n (pc := 210) 0 (sv_d k_Mo_findFar 124 rfl) rfl rfl ?_
      refine sv_getf (pc := 211) 6 (sv_d k_Mo_findFar 125 rfl) cf12 (by decide) w1308 kd187 (ss_lt (by decide)) (lr_187_6 E _) ?_
      refine sv_bipush (pc := 214) (v := (16 : Int32)) (sv_d k_Mo_findFar 126 rfl) (by decide) ?_
      refine sv_iload_n (pc := 216) 1 (sv_d k_Mo_findFar 127 rfl) rfl rfl ?_
      refine sv_imul (pc := 217) (sv_d k_Mo_findFar 128 rfl) ?_
      refine sv_iload (pc := 218) 3 (sv_d k_Mo_findFar 129 rfl) rfl ?_
      refine sv_iadd (pc := 220) (sv_d k_Mo_findFar 130 rfl) ?_
      refine ss_iald (pc := 221) (n := 256) (sv_d k_Mo_findFar 131 rfl) kd192 (ss_lt (by decide)) rfl ?_
      refine sv_iadd (pc := 222) (sv_d k_Mo_findFar 132 rfl) ?_
      refine ss_top (fun v3 e_v3 => ?_)
      refine sv_istore (pc := 223) (lv' := [(5, .int v3), (0, sv_r E 187), (2, .int x2), (3, .int x3), (4, .int x4)]) (sv_d k_Mo_findFar 133 rfl) (by decide) rfl ?_
      refine sv_iload (pc := 225) 0 (sv_d k_Mo_findFar 134 rfl) rfl ?_
      refine sv_aload_n (pc := 227) 1 (sv_d k_Mo_findFar 135 rfl) rfl rfl ?_
      refine sv_getf (pc := 228) 6 (sv_d k_Mo_findFar 136 rfl) cf12 (by decide) w1308 kd187 (ss_lt (by decide)) (lr_187_6 E _) ?_
      refine sv_bipush (pc := 231) (v := (16 : Int32)) (sv_d k_Mo_findFar 137 rfl) (by decide) ?_
      refine sv_iload_n (pc := 233) 3 (sv_d k_Mo_findFar 138 rfl) rfl rfl ?_
      refine sv_imul (pc := 234) (sv_d k_Mo_findFar 139 rfl) ?_
      refine sv_iload (pc := 235) 4 (sv_d k_Mo_findFar 140 rfl) rfl ?_
      refine sv_iadd (pc := 237) (sv_d k_Mo_findFar 141 rfl) ?_
      refine ss_iald (pc := 238) (n := 256) (sv_d k_Mo_findFar 142 rfl) kd192 (ss_lt (by decide)) rfl ?_
      refine sv_icmp_ge (pc := 239) (tgt := 256) (sv_d k_Mo_findFar 143 rfl) (by decide) ?_ ?_
      · exact sv_loc [1, 2, 3, 4] rfl (V_Mo_findFar_b256 E d kc175 kc183 (F_Mo_findFar_b192 kc175 kc183 n) hc175 hc183 ih x2 x3 x4 s)
      · refine sv_aload_n (pc := 242) 1 (sv_d k_Mo_findFar 144 rfl) rfl rfl ?_
        refine sv_getf (pc := 243) 6 (sv_d k_Mo_findFar 145 rfl) cf12 (by decide) w1308 kd187 (ss_lt (by decide)) (lr_187_6 E _) ?_
        refine sv_bipush (pc := 246) (v := (16 : Int32)) (sv_d k_Mo_findFar 146 rfl) (by decide) ?_
        refine sv_iload_n (pc := 248) 3 (sv_d k_Mo_findFar 147 rfl) rfl rfl ?_
        refine sv_imul (pc := 249) (sv_d k_Mo_findFar 148 rfl) ?_
        refine sv_iload (pc := 250) 4 (sv_d k_Mo_findFar 149 rfl) rfl ?_
        refine sv_iadd (pc := 252) (sv_d k_Mo_findFar 150 rfl) ?_
        refine sv_iload (pc := 253) 0 (sv_d k_Mo_findFar 151 rfl) rfl ?_
        refine ss_iast (pc := 255) (n := 256) (sv_d k_Mo_findFar 152 rfl) kd192 (by decide) (ss_lt (by decide)) rfl (ss_lets (fun s5 e_s5 => ?_))
        exact sv_loc [1, 2, 3, 4] rfl (V_Mo_findFar_b256 E d kc175 kc183 (F_Mo_findFar_b192 kc175 kc183 n) hc175 hc183 ih x2 x3 x4 s5)
def F_Mo_findFar_b183 (kc175 : Int32 → sv_S → Option (sv_S)) : Nat → Int32 → Int32 → sv_S → Option (sv_S)
  | 0 => fun _ _ _ => none
  | n + 1 => fun x2 x3 s =>
    if (16 : Int32) ≤ x3 then
      ss_let (x2 + (1 : Int32)) fun v1 =>
      kc175 v1 s
    else
    F_Mo_findFar_b192 kc175 (F_Mo_findFar_b183 kc175 n) ss_F x2 x3 (0 : Int32) s
theorem V_Mo_findFar_b183 (E : sv_E) (d : Nat) (kc175 : Int32 → sv_S → Option (sv_S)) (hc175 : ∀ (x2 : Int32) (s : sv_S), sv_V E m_Mo_findFar (d + 0) ss_v 175 [(0, sv_r E 187), (2, .int x2)] [] (ss_e s) (kc175 x2 s)) : ∀ (n : Nat) (x2 : Int32) (x3 : Int32) (s : sv_S), sv_V E m_Mo_findFar (d + 0) ss_v 183 [(0, sv_r E 187), (2, .int x2), (3, .int x3)] [] (ss_e s) (F_Mo_findFar_b183 kc175 n x2 x3 s) := by
  intro n
  induction n with
  | zero => intro x2 x3 s; exact sv_none
  | succ n ih =>
    intro x2 x3 s
    unfold F_Mo_findFar_b183
    refine sv_iload_n (pc := 183) 2 (sv_d k_Mo_findFar 108 rfl) rfl rfl ?_
    refine sv_bipush (pc := 184) (v := (16 : Int32)) (sv_d k_Mo_findFar 109 rfl) (by decide) ?_
    refine sv_icmp_ge (pc := 186) (tgt := 268) (sv_d k_Mo_findFar 110 rfl) (by decide) ?_ ?_
    · refine ss_letr (fun v1 e_v1 => ?_)
      refine sv_iinc (pc := 268) (v := v1) (lv' := [(2, .int v1), (0, sv_r E 187), (3, .int x3)]) (sv_d k_Mo_findFar 157 rfl) (n := 1) rfl (by rw [e_v1]; rfl) (by decide) rfl ?_
      refine sv_goto (pc := 271) (tgt := 175) (sv_d k_Mo_findFar 158 rfl) (by decide) ?_
      exact sv_loc [1, 0] rfl (hc175 v1 s)
    · refine sv_iconst (pc := 189) (v := (0 : Int32)) (sv_d k_Mo_findFar 111 rfl) (by decide) ?_
      refine sv_istore (pc := 190) (lv' := [(4, .int (0 : Int32)), (0, sv_r E 187), (2, .int x2), (3, .int x3)]) (sv_d k_Mo_findFar 112 rfl) (by decide) rfl ?_
      exact sv_loc [1, 2, 3, 0] rfl (V_Mo_findFar_b192 E d kc175 (F_Mo_findFar_b183 kc175 n) hc175 ih ss_F x2 x3 (0 : Int32) s)
def F_Mo_findFar_b175 : Nat → Int32 → sv_S → Option (sv_S)
  | 0 => fun _ _ => none
  | n + 1 => fun x2 s =>
    if (16 : Int32) ≤ x2 then
      some s
    else
    F_Mo_findFar_b183 (F_Mo_findFar_b175  n) ss_F x2 (0 : Int32) s
theorem V_Mo_findFar_b175 (E : sv_E) (d : Nat) : ∀ (n : Nat) (x2 : Int32) (s : sv_S), sv_V E m_Mo_findFar (d + 0) ss_v 175 [(0, sv_r E 187), (2, .int x2)] [] (ss_e s) (F_Mo_findFar_b175 n x2 s) := by
  intro n
  induction n with
  | zero => intro x2 s; exact sv_none
  | succ n ih =>
    intro x2 s
    unfold F_Mo_findFar_b175
    refine sv_iload_n (pc := 175) 1 (sv_d k_Mo_findFar 103 rfl) rfl rfl ?_
    refine sv_bipush (pc := 176) (v := (16 : Int32)) (sv_d k_Mo_findFar 104 rfl) (by decide) ?_
    refine sv_icmp_ge (pc := 178) (tgt := 274) (sv_d k_Mo_findFar 105 rfl) (by decide) ?_ ?_
    · exact sv_retv (pc := 274) (sv_d k_Mo_findFar 159 rfl) rfl rfl
    · refine sv_iconst (pc := 181) (v := (0 : Int32)) (sv_d k_Mo_findFar 106 rfl) (by decide) ?_
      refine sv_istore_n (pc := 182) (lv' := [(3, .int (0 : Int32)), (0, sv_r E 187), (2, .int x2)]) (sv_d k_Mo_findFar 107 rfl) rfl (by decide) rfl ?_
      exact sv_loc [1, 2, 0] rfl (V_Mo_findFar_b183 E d (F_Mo_findFar_b175  n) ih ss_F x2 (0 : Int32) s)
def F_Mo_findFar_b148 : Nat → Int32 → sv_S → Option (sv_S)
  | 0 => fun _ _ => none
  | n + 1 => fun x2 s =>
    if (256 : Int32) ≤ x2 then
      F_Mo_findFar_b175 ss_F (0 : Int32) s
    else
    if sv_ib x2 256 = true then
      if sv_ib x2 256 = true then
        ss_let (ss_setI s 192 x2.toNatClampNeg (s.1 193 x2.toNatClampNeg)) fun s6 =>
        ss_let (x2 + (1 : Int32)) fun v7 =>
        F_Mo_findFar_b148  n v7 s6
      else none
    else none
theorem V_Mo_findFar_b148 (E : sv_E) (d : Nat) : ∀ (n : Nat) (x2 : Int32) (s : sv_S), sv_V E m_Mo_findFar (d + 0) ss_v 148 [(0, sv_r E 187), (2, .int x2)] [] (ss_e s) (F_Mo_findFar_b148 n x2 s) := by
  intro n
  induction n with
  | zero => intro x2 s; exact sv_none
  | succ n ih =>
    intro x2 s
    unfold F_Mo_findFar_b148
    refine sv_iload_n (pc := 148) 1 (sv_d k_Mo_findFar 88 rfl) rfl rfl ?_
    refine sv_sipush (pc := 149) (v := (256 : Int32)) (sv_d k_Mo_findFar 89 rfl) (by decide) ?_
    refine sv_icmp_ge (pc := 152) (tgt := 173) (sv_d k_Mo_findFar 90 rfl) (by decide) ?_ ?_
    · refine sv_iconst (pc := 173) (v := (0 : Int32)) (sv_d k_Mo_findFar 101 rfl) (by decide) ?_
      refine sv_istore_n (pc := 174) (lv' := [(2, .int (0 : Int32)), (0, sv_r E 187)]) (sv_d k_Mo_findFar 102 rfl) rfl (by decide) rfl ?_
      exact sv_loc [1, 0] rfl (V_Mo_findFar_b175 E d ss_F (0 : Int32) s)
    · refine sv_aload_n (pc := 155) 0 (sv_d k_Mo_findFar 91 rfl) rfl rfl ?_
      refine sv_getf (pc := 156) 6 (sv_d k_Mo_findFar 92 rfl) cf12 (by decide) w1308 kd187 (ss_lt (by decide)) (lr_187_6 E _) ?_
      refine sv_iload_n (pc := 159) 1 (sv_d k_Mo_findFar 93 rfl) rfl rfl ?_
      refine sv_aload_n (pc := 160) 0 (sv_d k_Mo_findFar 94 rfl) rfl rfl ?_
      refine sv_getf (pc := 161) 7 (sv_d k_Mo_findFar 95 rfl) cf12 (by decide) w1309 kd187 (ss_lt (by decide)) (lr_187_7 E _) ?_
      refine sv_iload_n (pc := 164) 1 (sv_d k_Mo_findFar 96 rfl) rfl rfl ?_
      refine ss_iald (pc := 165) (n := 256) (sv_d k_Mo_findFar 97 rfl) kd193 (ss_lt (by decide)) rfl ?_
      refine ss_iast (pc := 166) (n := 256) (sv_d k_Mo_findFar 98 rfl) kd192 (by decide) (ss_lt (by decide)) rfl (ss_lets (fun s6 e_s6 => ?_))
      refine ss_letr (fun v7 e_v7 => ?_)
      refine sv_iinc (pc := 167) (v := v7) (lv' := [(2, .int v7), (0, sv_r E 187)]) (sv_d k_Mo_findFar 99 rfl) (n := 1) rfl (by rw [e_v7]; rfl) (by decide) rfl ?_
      refine sv_goto (pc := 170) (tgt := 148) (sv_d k_Mo_findFar 100 rfl) (by decide) ?_
      exact sv_loc [1, 0] rfl (ih v7 s6)
def F_Mo_findFar_b140 (kc41 : Int32 → Int32 → sv_S → Option (sv_S)) (x1 : Int32) (x2 : Int32) (s : sv_S) : Option (sv_S) :=
  ss_let (x2 + (1 : Int32)) fun v11 =>
  kc41 x1 v11 s
theorem V_Mo_findFar_b140 (E : sv_E) (d : Nat) (kc41 : Int32 → Int32 → sv_S → Option (sv_S)) (hc41 : ∀ (x1 : Int32) (x2 : Int32) (s : sv_S), sv_V E m_Mo_findFar (d + 0) ss_v 41 [(0, sv_r E 187), (1, .int x1), (2, .int x2)] [] (ss_e s) (kc41 x1 x2 s)) (x1 : Int32) (x2 : Int32) (s : sv_S) : sv_V E m_Mo_findFar (d + 0) ss_v 140 [(0, sv_r E 187), (1, .int x1), (2, .int x2)] [] (ss_e s) (F_Mo_findFar_b140 kc41 x1 x2 s) := by
  unfold F_Mo_findFar_b140
  refine ss_letr (fun v11 e_v11 => ?_)
  refine sv_iinc (pc := 140) (v := v11) (lv' := [(2, .int v11), (0, sv_r E 187), (1, .int x1)]) (sv_d k_Mo_findFar 84 rfl) (n := 2) rfl (by rw [e_v11]; rfl) (by decide) rfl ?_
  refine sv_goto (pc := 143) (tgt := 41) (sv_d k_Mo_findFar 85 rfl) (by decide) ?_
  exact sv_loc [1, 2, 0] rfl (hc41 x1 v11 s)
def F_Mo_findFar_b66 (kc41 : Int32 → Int32 → sv_S → Option (sv_S)) (x1 : Int32) (x2 : Int32) (s : sv_S) : Option (sv_S) :=
  if sv_ib x2 40 = true then
    if sv_ib x2 40 = true then
      ss_let (((16 : Int32) * (s.1 189 x2.toNatClampNeg)) + (s.1 190 x2.toNatClampNeg)) fun v8 =>
      if sv_ib x2 40 = true then
        if sv_ib v8 256 = true then
          if (s.1 191 x2.toNatClampNeg) < (s.1 193 v8.toNatClampNeg) then
            if sv_ib x2 40 = true then
              if sv_ib v8 256 = true then
                ss_let (ss_setI s 193 v8.toNatClampNeg (s.1 191 x2.toNatClampNeg)) fun s9 =>
                if sv_ib x2 40 = true then
                  if sv_ib x2 40 = true then
                    if sv_ib x2 40 = true then
                      if sv_ib (((16 : Int32) * (s9.1 190 x2.toNatClampNeg)) + (s9.1 189 x2.toNatClampNeg)) 256 = true then
                        ss_let (ss_setI s9 193 (((16 : Int32) * (s9.1 190 x2.toNatClampNeg)) + (s9.1 189 x2.toNatClampNeg)).toNatClampNeg (s9.1 191 x2.toNatClampNeg)) fun s10 =>
                        F_Mo_findFar_b140 kc41 x1 x2 s10
                      else none
                    else none
                  else none
                else none
              else none
            else none
          else
          F_Mo_findFar_b140 kc41 x1 x2 s
        else none
      else none
    else none
  else none
theorem V_Mo_findFar_b66 (E : sv_E) (d : Nat) (kc41 : Int32 → Int32 → sv_S → Option (sv_S)) (hc41 : ∀ (x1 : Int32) (x2 : Int32) (s : sv_S), sv_V E m_Mo_findFar (d + 0) ss_v 41 [(0, sv_r E 187), (1, .int x1), (2, .int x2)] [] (ss_e s) (kc41 x1 x2 s)) (x1 : Int32) (x2 : Int32) (s : sv_S) : sv_V E m_Mo_findFar (d + 0) ss_v 66 [(0, sv_r E 187), (1, .int x1), (2, .int x2)] [] (ss_e s) (F_Mo_findFar_b66 kc41 x1 x2 s) := by
  unfold F_Mo_findFar_b66
  refine sv_bipush (pc := 66) (v := (16 : Int32)) (sv_d k_Mo_findFar 36 rfl) (by decide) ?_
  refine sv_aload_n (pc := 68) 0 (sv_d k_Mo_findFar 37 rfl) rfl rfl ?_
  refine sv_getf (pc := 69) 3 (sv_d k_Mo_findFar 38 rfl) cf12 (by decide) w1305 kd187 (ss_lt (by decide)) (lr_187_3 E _) ?_
  refine sv_iload_n (pc := 72) 2 (sv_d k_Mo_findFar 39 rfl) rfl rfl ?_
  refine ss_iald (pc := 73) (n := 40) (sv_d k_Mo_findFar 40 rfl) kd189 (ss_lt (by decide)) rfl ?_
  refine sv_imul (pc := 74) (sv_d k_Mo_findFar 41 rfl) ?_
  refine sv_aload_n (pc := 75) 0 (sv_d k_Mo_findFar 42 rfl) rfl rfl ?_
  refine sv_getf (pc := 76) 4 (sv_d k_Mo_findFar 43 rfl) cf12 (by decide) w1306 kd187 (ss_lt (by decide)) (lr_187_4 E _) ?_
  refine sv_iload_n (pc := 79) 2 (sv_d k_Mo_findFar 44 rfl) rfl rfl ?_
  refine ss_iald (pc := 80) (n := 40) (sv_d k_Mo_findFar 45 rfl) kd190 (ss_lt (by decide)) rfl ?_
  refine sv_iadd (pc := 81) (sv_d k_Mo_findFar 46 rfl) ?_
  refine ss_top (fun v8 e_v8 => ?_)
  refine sv_istore_n (pc := 82) (lv' := [(3, .int v8), (0, sv_r E 187), (1, .int x1), (2, .int x2)]) (sv_d k_Mo_findFar 47 rfl) rfl (by decide) rfl ?_
  refine sv_aload_n (pc := 83) 1 (sv_d k_Mo_findFar 48 rfl) rfl rfl ?_
  refine sv_getf (pc := 84) 5 (sv_d k_Mo_findFar 49 rfl) cf12 (by decide) w1307 kd187 (ss_lt (by decide)) (lr_187_5 E _) ?_
  refine sv_iload_n (pc := 87) 3 (sv_d k_Mo_findFar 50 rfl) rfl rfl ?_
  refine ss_iald (pc := 88) (n := 40) (sv_d k_Mo_findFar 51 rfl) kd191 (ss_lt (by decide)) rfl ?_
  refine sv_aload_n (pc := 89) 1 (sv_d k_Mo_findFar 52 rfl) rfl rfl ?_
  refine sv_getf (pc := 90) 7 (sv_d k_Mo_findFar 53 rfl) cf12 (by decide) w1309 kd187 (ss_lt (by decide)) (lr_187_7 E _) ?_
  refine sv_iload_n (pc := 93) 0 (sv_d k_Mo_findFar 54 rfl) rfl rfl ?_
  refine ss_iald (pc := 94) (n := 256) (sv_d k_Mo_findFar 55 rfl) kd193 (ss_lt (by decide)) rfl ?_
  refine sv_icmp_lt (pc := 95) (tgt := 101) (sv_d k_Mo_findFar 56 rfl) (by decide) ?_ ?_
  · refine sv_aload_n (pc := 101) 1 (sv_d k_Mo_findFar 58 rfl) rfl rfl ?_
    refine sv_getf (pc := 102) 7 (sv_d k_Mo_findFar 59 rfl) cf12 (by decide) w1309 kd187 (ss_lt (by decide)) (lr_187_7 E _) ?_
    refine sv_iload_n (pc := 105) 0 (sv_d k_Mo_findFar 60 rfl) rfl rfl ?_
    refine sv_aload_n (pc := 106) 1 (sv_d k_Mo_findFar 61 rfl) rfl rfl ?_
    refine sv_getf (pc := 107) 5 (sv_d k_Mo_findFar 62 rfl) cf12 (by decide) w1307 kd187 (ss_lt (by decide)) (lr_187_5 E _) ?_
    refine sv_iload_n (pc := 110) 3 (sv_d k_Mo_findFar 63 rfl) rfl rfl ?_
    refine ss_iald (pc := 111) (n := 40) (sv_d k_Mo_findFar 64 rfl) kd191 (ss_lt (by decide)) rfl ?_
    refine ss_iast (pc := 112) (n := 256) (sv_d k_Mo_findFar 65 rfl) kd193 (by decide) (ss_lt (by decide)) rfl (ss_lets (fun s9 e_s9 => ?_))
    refine sv_aload_n (pc := 113) 1 (sv_d k_Mo_findFar 66 rfl) rfl rfl ?_
    refine sv_getf (pc := 114) 7 (sv_d k_Mo_findFar 67 rfl) cf12 (by decide) w1309 kd187 (ss_lt (by decide)) (lr_187_7 E _) ?_
    refine sv_bipush (pc := 117) (v := (16 : Int32)) (sv_d k_Mo_findFar 68 rfl) (by decide) ?_
    refine sv_aload_n (pc := 119) 1 (sv_d k_Mo_findFar 69 rfl) rfl rfl ?_
    refine sv_getf (pc := 120) 4 (sv_d k_Mo_findFar 70 rfl) cf12 (by decide) w1306 kd187 (ss_lt (by decide)) (lr_187_4 E _) ?_
    refine sv_iload_n (pc := 123) 3 (sv_d k_Mo_findFar 71 rfl) rfl rfl ?_
    refine ss_iald (pc := 124) (n := 40) (sv_d k_Mo_findFar 72 rfl) kd190 (ss_lt (by decide)) rfl ?_
    refine sv_imul (pc := 125) (sv_d k_Mo_findFar 73 rfl) ?_
    refine sv_aload_n (pc := 126) 1 (sv_d k_Mo_findFar 74 rfl) rfl rfl ?_
    refine sv_getf (pc := 127) 3 (sv_d k_Mo_findFar 75 rfl) cf12 (by decide) w1305 kd187 (ss_lt (by decide)) (lr_187_3 E _) ?_
    refine sv_iload_n (pc := 130) 3 (sv_d k_Mo_findFar 76 rfl) rfl rfl ?_
    refine ss_iald (pc := 131) (n := 40) (sv_d k_Mo_findFar 77 rfl) kd189 (ss_lt (by decide)) rfl ?_
    refine sv_iadd (pc := 132) (sv_d k_Mo_findFar 78 rfl) ?_
    refine sv_aload_n (pc := 133) 1 (sv_d k_Mo_findFar 79 rfl) rfl rfl ?_
    refine sv_getf (pc := 134) 5 (sv_d k_Mo_findFar 80 rfl) cf12 (by decide) w1307 kd187 (ss_lt (by decide)) (lr_187_5 E _) ?_
    refine sv_iload_n (pc := 137) 3 (sv_d k_Mo_findFar 81 rfl) rfl rfl ?_
    refine ss_iald (pc := 138) (n := 40) (sv_d k_Mo_findFar 82 rfl) kd191 (ss_lt (by decide)) rfl ?_
    refine ss_iast (pc := 139) (n := 256) (sv_d k_Mo_findFar 83 rfl) kd193 (by decide) (ss_lt (by decide)) rfl (ss_lets (fun s10 e_s10 => ?_))
    exact sv_loc [1, 2, 3] rfl (V_Mo_findFar_b140 E d kc41 hc41 x1 x2 s10)
  · refine sv_goto (pc := 98) (tgt := 140) (sv_d k_Mo_findFar 57 rfl) (by decide) ?_
    exact sv_loc [1, 2, 3] rfl (V_Mo_findFar_b140 E d kc41 hc41 x1 x2 s)
def F_Mo_findFar_b41 : Nat → Int32 → Int32 → sv_S → Option (sv_S)
  | 0 => fun _ _ _ => none
  | n + 1 => fun x1 x2 s =>
    if (s.1 187 1) ≤ x2 then
      F_Mo_findFar_b148 ss_F (0 : Int32) s
    else
    if x1 < 0 then
      F_Mo_findFar_b66 (F_Mo_findFar_b41  n) x1 x2 s
    else
    if sv_ib x2 40 = true then
      if (s.1 188 x2.toNatClampNeg) = x1 then
        F_Mo_findFar_b66 (F_Mo_findFar_b41  n) x1 x2 s
      else
      F_Mo_findFar_b140 (F_Mo_findFar_b41  n) x1 x2 s
    else none
theorem V_Mo_findFar_b41 (E : sv_E) (d : Nat) : ∀ (n : Nat) (x1 : Int32) (x2 : Int32) (s : sv_S), sv_V E m_Mo_findFar (d + 0) ss_v 41 [(0, sv_r E 187), (1, .int x1), (2, .int x2)] [] (ss_e s) (F_Mo_findFar_b41 n x1 x2 s) := by
  intro n
  induction n with
  | zero => intro x1 x2 s; exact sv_none
  | succ n ih =>
    intro x1 x2 s
    unfold F_Mo_findFar_b41
    refine sv_iload_n (pc := 41) 2 (sv_d k_Mo_findFar 23 rfl) rfl rfl ?_
    refine sv_aload_n (pc := 42) 0 (sv_d k_Mo_findFar 24 rfl) rfl rfl ?_
    refine sv_getf (pc := 43) 1 (sv_d k_Mo_findFar 25 rfl) cf12 (by decide) w1303 kd187 (ss_lt (by decide)) rfl ?_
    refine sv_icmp_ge (pc := 46) (tgt := 146) (sv_d k_Mo_findFar 26 rfl) (by decide) ?_ ?_
    · refine sv_iconst (pc := 146) (v := (0 : Int32)) (sv_d k_Mo_findFar 86 rfl) (by decide) ?_
      refine sv_istore_n (pc := 147) (lv' := [(2, .int (0 : Int32)), (0, sv_r E 187), (1, .int x1)]) (sv_d k_Mo_findFar 87 rfl) rfl (by decide) rfl ?_
      exact sv_loc [1, 0] rfl (V_Mo_findFar_b148 E d ss_F (0 : Int32) s)
    · refine sv_iload_n (pc := 49) 1 (sv_d k_Mo_findFar 27 rfl) rfl rfl ?_
      refine sv_if_lt (pc := 50) (tgt := 66) (sv_d k_Mo_findFar 28 rfl) (by decide) ?_ ?_
      · exact sv_loc [0, 1, 2] rfl (V_Mo_findFar_b66 E d (F_Mo_findFar_b41  n) ih x1 x2 s)
      · refine sv_aload_n (pc := 53) 0 (sv_d k_Mo_findFar 29 rfl) rfl rfl ?_
        refine sv_getf (pc := 54) 2 (sv_d k_Mo_findFar 30 rfl) cf12 (by decide) w1304 kd187 (ss_lt (by decide)) (lr_187_2 E _) ?_
        refine sv_iload_n (pc := 57) 2 (sv_d k_Mo_findFar 31 rfl) rfl rfl ?_
        refine ss_iald (pc := 58) (n := 40) (sv_d k_Mo_findFar 32 rfl) kd188 (ss_lt (by decide)) rfl ?_
        refine sv_iload_n (pc := 59) 1 (sv_d k_Mo_findFar 33 rfl) rfl rfl ?_
        refine sv_icmp_eq (pc := 60) (tgt := 66) (sv_d k_Mo_findFar 34 rfl) (by decide) ?_ ?_
        · exact sv_loc [0, 1, 2] rfl (V_Mo_findFar_b66 E d (F_Mo_findFar_b41  n) ih x1 x2 s)
        · refine sv_goto (pc := 63) (tgt := 140) (sv_d k_Mo_findFar 35 rfl) (by decide) ?_
          exact sv_loc [0, 1, 2] rfl (V_Mo_findFar_b140 E d (F_Mo_findFar_b41  n) ih x1 x2 s)
def F_Mo_findFar_b32 (kc2 : Int32 → Int32 → sv_S → Option (sv_S)) (x1 : Int32) (x2 : Int32) (t1 : Int32) (t2 : Int32) (s : sv_S) : Option (sv_S) :=
  if sv_ib t1 256 = true then
    ss_let (ss_setI s 193 t1.toNatClampNeg t2) fun s12 =>
    ss_let (x2 + (1 : Int32)) fun v13 =>
    kc2 x1 v13 s12
  else none
theorem V_Mo_findFar_b32 (E : sv_E) (d : Nat) (kc2 : Int32 → Int32 → sv_S → Option (sv_S)) (hc2 : ∀ (x1 : Int32) (x2 : Int32) (s : sv_S), sv_V E m_Mo_findFar (d + 0) ss_v 2 [(0, sv_r E 187), (1, .int x1), (2, .int x2)] [] (ss_e s) (kc2 x1 x2 s)) (x1 : Int32) (x2 : Int32) (t1 : Int32) (t2 : Int32) (s : sv_S) : sv_V E m_Mo_findFar (d + 0) ss_v 32 [(0, sv_r E 187), (1, .int x1), (2, .int x2)] [.int t2, .int t1, sv_r E 193] (ss_e s) (F_Mo_findFar_b32 kc2 x1 x2 t1 t2 s) := by
  unfold F_Mo_findFar_b32
  refine ss_iast (pc := 32) (n := 256) (sv_d k_Mo_findFar 18 rfl) kd193 (by decide) (ss_lt (by decide)) rfl (ss_lets (fun s12 e_s12 => ?_))
  refine ss_letr (fun v13 e_v13 => ?_)
  refine sv_iinc (pc := 33) (v := v13) (lv' := [(2, .int v13), (0, sv_r E 187), (1, .int x1)]) (sv_d k_Mo_findFar 19 rfl) (n := 2) rfl (by rw [e_v13]; rfl) (by decide) rfl ?_
  refine sv_goto (pc := 36) (tgt := 2) (sv_d k_Mo_findFar 20 rfl) (by decide) ?_
  exact sv_loc [1, 2, 0] rfl (hc2 x1 v13 s12)
def F_Mo_findFar_b2 : Nat → Int32 → Int32 → sv_S → Option (sv_S)
  | 0 => fun _ _ _ => none
  | n + 1 => fun x1 x2 s =>
    if (256 : Int32) ≤ x2 then
      F_Mo_findFar_b41 ss_F x1 (0 : Int32) s
    else
    if (x2 / (16 : Int32)) = (x2 - x2 / (16 : Int32) * (16 : Int32)) then
      F_Mo_findFar_b32 (F_Mo_findFar_b2  n) x1 x2 x2 (0 : Int32) s
    else
    F_Mo_findFar_b32 (F_Mo_findFar_b2  n) x1 x2 x2 (100000 : Int32) s
theorem V_Mo_findFar_b2 (E : sv_E) (d : Nat) : ∀ (n : Nat) (x1 : Int32) (x2 : Int32) (s : sv_S), sv_V E m_Mo_findFar (d + 0) ss_v 2 [(0, sv_r E 187), (1, .int x1), (2, .int x2)] [] (ss_e s) (F_Mo_findFar_b2 n x1 x2 s) := by
  intro n
  induction n with
  | zero => intro x1 x2 s; exact sv_none
  | succ n ih =>
    intro x1 x2 s
    unfold F_Mo_findFar_b2
    refine sv_iload_n (pc := 2) 2 (sv_d k_Mo_findFar 2 rfl) rfl rfl ?_
    refine sv_sipush (pc := 3) (v := (256 : Int32)) (sv_d k_Mo_findFar 3 rfl) (by decide) ?_
    refine sv_icmp_ge (pc := 6) (tgt := 39) (sv_d k_Mo_findFar 4 rfl) (by decide) ?_ ?_
    · refine sv_iconst (pc := 39) (v := (0 : Int32)) (sv_d k_Mo_findFar 21 rfl) (by decide) ?_
      refine sv_istore_n (pc := 40) (lv' := [(2, .int (0 : Int32)), (0, sv_r E 187), (1, .int x1)]) (sv_d k_Mo_findFar 22 rfl) rfl (by decide) rfl ?_
      exact sv_loc [1, 2, 0] rfl (V_Mo_findFar_b41 E d ss_F x1 (0 : Int32) s)
    · refine sv_aload_n (pc := 9) 0 (sv_d k_Mo_findFar 5 rfl) rfl rfl ?_
      refine sv_getf (pc := 10) 7 (sv_d k_Mo_findFar 6 rfl) cf12 (by decide) w1309 kd187 (ss_lt (by decide)) (lr_187_7 E _) ?_
      refine sv_iload_n (pc := 13) 2 (sv_d k_Mo_findFar 7 rfl) rfl rfl ?_
      refine sv_iload_n (pc := 14) 2 (sv_d k_Mo_findFar 8 rfl) rfl rfl ?_
      refine sv_bipush (pc := 15) (v := (16 : Int32)) (sv_d k_Mo_findFar 9 rfl) (by decide) ?_
      refine sv_idivK (pc := 17) (sv_d k_Mo_findFar 10 rfl) (by decide) ?_
      refine sv_iload_n (pc := 18) 2 (sv_d k_Mo_findFar 11 rfl) rfl rfl ?_
      refine sv_bipush (pc := 19) (v := (16 : Int32)) (sv_d k_Mo_findFar 12 rfl) (by decide) ?_
      refine sv_iremK (pc := 21) (sv_d k_Mo_findFar 13 rfl) (by decide) ?_
      refine sv_icmp_ne (pc := 22) (tgt := 29) (sv_d k_Mo_findFar 14 rfl) (by decide) ?_ ?_
      · refine sv_ldcw (pc := 29) (v := (100000 : Int32)) w1573 (sv_d k_Mo_findFar 17 rfl) ?_
        exact sv_loc [0, 1, 2] rfl (V_Mo_findFar_b32 E d (F_Mo_findFar_b2  n) ih x1 x2 x2 (100000 : Int32) s)
      · refine sv_iconst (pc := 25) (v := (0 : Int32)) (sv_d k_Mo_findFar 15 rfl) (by decide) ?_
        refine sv_goto (pc := 26) (tgt := 32) (sv_d k_Mo_findFar 16 rfl) (by decide) ?_
        exact sv_loc [0, 1, 2] rfl (V_Mo_findFar_b32 E d (F_Mo_findFar_b2  n) ih x1 x2 x2 (0 : Int32) s)
def F_Mo_findFar (x1 : Int32) (s : sv_S) : Option (sv_S) :=
  F_Mo_findFar_b2 ss_F x1 (0 : Int32) s
theorem V_Mo_findFar (E : sv_E) (d : Nat) (x1 : Int32) (s : sv_S) : sv_V E m_Mo_findFar (d + 0) ss_v 0 (lv_args 0 [sv_r E 187, .int x1]) [] (ss_e s) (F_Mo_findFar x1 s) := by
  show sv_V E m_Mo_findFar (d + 0) ss_v 0 [(0, sv_r E 187), (1, .int x1)] [] (ss_e s) _
  unfold F_Mo_findFar
  refine sv_iconst (pc := 0) (v := (0 : Int32)) (sv_d k_Mo_findFar 0 rfl) (by decide) ?_
  refine sv_istore_n (pc := 1) (lv' := [(2, .int (0 : Int32)), (0, sv_r E 187), (1, .int x1)]) (sv_d k_Mo_findFar 1 rfl) rfl (by decide) rfl ?_
  exact sv_loc [1, 2, 0] rfl (V_Mo_findFar_b2 E d ss_F x1 (0 : Int32) s)
/-! Mo_milesBy -/
abbrev m_Mo_milesBy : sv_M := (yX12_milesBy, cX12_milesBy, 4, (some .int))
def t_Mo_milesBy : List (Nat × Instr × Nat) := [(0, .aload_n 0, 1), (1, .iload_n 1, 1), (2, .invokevirtual 263, 3), (5, .aload_n 0, 1), (6, .getfield 29, 3), (9, .bipush 16, 2), (11, .iload_n 2, 1), (12, .imul, 1), (13, .iload_n 3, 1), (14, .iadd, 1), (15, .iaload, 1), (16, .ldc_w 262, 3), (19, .if_icmp .ge 17, 3), (22, .aload_n 0, 1), (23, .getfield 29, 3), (26, .bipush 16, 2), (28, .iload_n 2, 1), (29, .imul, 1), (30, .iload_n 3, 1), (31, .iadd, 1), (32, .iaload, 1), (33, .goto 5, 3), (36, .bipush (-3), 2), (38, .ireturn, 1)]
theorem k_Mo_milesBy : sv_tk m_Mo_milesBy.2.1 t_Mo_milesBy := by decide +kernel
theorem g_Mo_milesBy : sv_G m_Mo_milesBy 3 := ⟨by decide +kernel, sv_in 1568 (by decide +kernel) rfl, sv_in 103 (by decide +kernel) rfl, ⟨by decide, by decide⟩, by decide +kernel, by decide⟩
theorem in_Mo_milesBy : Cond.instanceMethod m_Mo_milesBy.1 ∈ sv_T := sv_in 1567 (by decide +kernel) rfl
theorem se_Mo_milesBy : Cond.selects m_Mo_milesBy.1.cls m_Mo_milesBy.1 m_Mo_milesBy.1 ∈ sv_T := sv_in 37 (by decide +kernel) rfl
def F_Mo_milesBy (x1 : Int32) (x2 : Int32) (x3 : Int32) (s : sv_S) : Option (Int32 × sv_S) :=
  (F_Mo_findFar x1 s).bind fun r1 =>
  if sv_ib (((16 : Int32) * x2) + x3) 256 = true then
    if (100000 : Int32) ≤ (r1.1 192 (((16 : Int32) * x2) + x3).toNatClampNeg) then
      some ((-3 : Int32), r1)
    else
    if sv_ib (((16 : Int32) * x2) + x3) 256 = true then
      some (r1.1 192 (((16 : Int32) * x2) + x3).toNatClampNeg, r1)
    else none
  else none
theorem V_Mo_milesBy (E : sv_E) (d : Nat) (x1 : Int32) (x2 : Int32) (x3 : Int32) (s : sv_S) : sv_V E m_Mo_milesBy (d + 1) ss_i 0 (lv_args 0 [sv_r E 187, .int x1, .int x2, .int x3]) [] (ss_e s) (F_Mo_milesBy x1 x2 x3 s) := by
  show sv_V E m_Mo_milesBy (d + 1) ss_i 0 [(0, sv_r E 187), (1, .int x1), (2, .int x2), (3, .int x3)] [] (ss_e s) _
  unfold F_Mo_milesBy
  refine sv_aload_n (pc := 0) 0 (sv_d k_Mo_milesBy 0 rfl) rfl rfl ?_
  refine sv_iload_n (pc := 1) 1 (sv_d k_Mo_milesBy 1 rfl) rfl rfl ?_
  refine sv_callV (pc := 2) (ψ := ss_v) (As := [.int x1]) (rest := []) (c := 187) (sv_d k_Mo_milesBy 2 rfl) g_Mo_findFar w1569 in_Mo_findFar se_Mo_findFar cf12 kd187 (ss_lt (by decide)) rfl (Nat.le_of_ble_eq_true rfl) (V_Mo_findFar E (d + 0) x1 s) (Nat.le_of_ble_eq_true rfl) rfl (fun r1 => ?_)
  show sv_V E _ _ _ 5 _ [] (ss_e r1) _
  refine sv_aload_n (pc := 5) 0 (sv_d k_Mo_milesBy 3 rfl) rfl rfl ?_
  refine sv_getf (pc := 6) 6 (sv_d k_Mo_milesBy 4 rfl) cf12 (by decide) w1308 kd187 (ss_lt (by decide)) (lr_187_6 E _) ?_
  refine sv_bipush (pc := 9) (v := (16 : Int32)) (sv_d k_Mo_milesBy 5 rfl) (by decide) ?_
  refine sv_iload_n (pc := 11) 2 (sv_d k_Mo_milesBy 6 rfl) rfl rfl ?_
  refine sv_imul (pc := 12) (sv_d k_Mo_milesBy 7 rfl) ?_
  refine sv_iload_n (pc := 13) 3 (sv_d k_Mo_milesBy 8 rfl) rfl rfl ?_
  refine sv_iadd (pc := 14) (sv_d k_Mo_milesBy 9 rfl) ?_
  refine ss_iald (pc := 15) (n := 256) (sv_d k_Mo_milesBy 10 rfl) kd192 (ss_lt (by decide)) rfl ?_
  refine sv_ldcw (pc := 16) (v := (100000 : Int32)) w1573 (sv_d k_Mo_milesBy 11 rfl) ?_
  refine sv_icmp_ge (pc := 19) (tgt := 36) (sv_d k_Mo_milesBy 12 rfl) (by decide) ?_ ?_
  · refine sv_bipush (pc := 36) (v := (-3 : Int32)) (sv_d k_Mo_milesBy 22 rfl) (by decide) ?_
    exact sv_ret (pc := 38) (sv_d k_Mo_milesBy 23 rfl) ⟨_, rfl, rfl⟩ rfl
  · refine sv_aload_n (pc := 22) 0 (sv_d k_Mo_milesBy 13 rfl) rfl rfl ?_
    refine sv_getf (pc := 23) 6 (sv_d k_Mo_milesBy 14 rfl) cf12 (by decide) w1308 kd187 (ss_lt (by decide)) (lr_187_6 E _) ?_
    refine sv_bipush (pc := 26) (v := (16 : Int32)) (sv_d k_Mo_milesBy 15 rfl) (by decide) ?_
    refine sv_iload_n (pc := 28) 2 (sv_d k_Mo_milesBy 16 rfl) rfl rfl ?_
    refine sv_imul (pc := 29) (sv_d k_Mo_milesBy 17 rfl) ?_
    refine sv_iload_n (pc := 30) 3 (sv_d k_Mo_milesBy 18 rfl) rfl rfl ?_
    refine sv_iadd (pc := 31) (sv_d k_Mo_milesBy 19 rfl) ?_
    refine ss_iald (pc := 32) (n := 256) (sv_d k_Mo_milesBy 20 rfl) kd192 (ss_lt (by decide)) rfl ?_
    refine sv_goto (pc := 33) (tgt := 38) (sv_d k_Mo_milesBy 21 rfl) (by decide) ?_
    exact sv_ret (pc := 38) (sv_d k_Mo_milesBy 23 rfl) ⟨_, rfl, rfl⟩ rfl
/-! Mo_miles -/
abbrev m_Mo_miles : sv_M := (yX12_miles, cX12_miles, 4, (some .int))
def t_Mo_miles : List (Nat × Instr × Nat) := [(0, .aload_n 0, 1), (1, .iload_n 1, 1), (2, .iconst (-1), 1), (3, .iconst 5, 1), (4, .invokevirtual 251, 3), (7, .ifCond .eq 19, 3), (10, .aload_n 0, 1), (11, .iload_n 2, 1), (12, .invokevirtual 259, 3), (15, .ifCond .eq 11, 3), (18, .aload_n 0, 1), (19, .iload_n 3, 1), (20, .invokevirtual 259, 3), (23, .ifCond .ne 7, 3), (26, .iconst (-1), 1), (27, .goto 10, 3), (30, .aload_n 0, 1), (31, .iload_n 1, 1), (32, .iload_n 2, 1), (33, .iload_n 3, 1), (34, .invokevirtual 267, 3), (37, .ireturn, 1)]
theorem k_Mo_miles : sv_tk m_Mo_miles.2.1 t_Mo_miles := by decide +kernel
theorem g_Mo_miles : sv_G m_Mo_miles 3 := ⟨by decide +kernel, sv_in 1564 (by decide +kernel) rfl, sv_in 103 (by decide +kernel) rfl, ⟨by decide, by decide⟩, by decide +kernel, by decide⟩
theorem in_Mo_miles : Cond.instanceMethod m_Mo_miles.1 ∈ sv_T := sv_in 1562 (by decide +kernel) rfl
theorem se_Mo_miles : Cond.selects m_Mo_miles.1.cls m_Mo_miles.1 m_Mo_miles.1 ∈ sv_T := sv_in 1563 (by decide +kernel) rfl
def F_Mo_miles (x1 : Int32) (x2 : Int32) (x3 : Int32) (s : sv_S) : Option (Int32 × sv_S) :=
  (F_Mo_in x1 (-1 : Int32) (5 : Int32) s).bind fun r1 =>
  if r1 = 0 then
    some ((-1 : Int32), s)
  else
  (F_Mo_isStation x2 s).bind fun r2 =>
  if r2 = 0 then
    some ((-1 : Int32), s)
  else
  (F_Mo_isStation x3 s).bind fun r3 =>
  if r3 = 0 then
    some ((-1 : Int32), s)
  else
  (F_Mo_milesBy x1 x2 x3 s).bind fun r4 =>
  some (r4.1, r4.2)
theorem V_Mo_miles (E : sv_E) (d : Nat) (x1 : Int32) (x2 : Int32) (x3 : Int32) (s : sv_S) : sv_V E m_Mo_miles (d + 2) ss_i 0 (lv_args 0 [sv_r E 187, .int x1, .int x2, .int x3]) [] (ss_e s) (F_Mo_miles x1 x2 x3 s) := by
  show sv_V E m_Mo_miles (d + 2) ss_i 0 [(0, sv_r E 187), (1, .int x1), (2, .int x2), (3, .int x3)] [] (ss_e s) _
  unfold F_Mo_miles
  refine sv_aload_n (pc := 0) 0 (sv_d k_Mo_miles 0 rfl) rfl rfl ?_
  refine sv_iload_n (pc := 1) 1 (sv_d k_Mo_miles 1 rfl) rfl rfl ?_
  refine sv_iconst (pc := 2) (v := (-1 : Int32)) (sv_d k_Mo_miles 2 rfl) (by decide) ?_
  refine sv_iconst (pc := 3) (v := (5 : Int32)) (sv_d k_Mo_miles 3 rfl) (by decide) ?_
  refine sv_callV (pc := 4) (ψ := (ss_pi s)) (As := [.int x1, .int (-1 : Int32), .int (5 : Int32)]) (rest := []) (c := 187) (sv_d k_Mo_miles 4 rfl) g_Mo_in w1545 in_Mo_in se_Mo_in cf12 kd187 (ss_lt (by decide)) rfl (Nat.le_of_ble_eq_true rfl) (V_Mo_in E (d + 1) x1 (-1 : Int32) (5 : Int32) s) (Nat.le_of_ble_eq_true rfl) rfl (fun r1 => ?_)
  show sv_V E _ _ _ 7 _ [.int r1] (ss_e s) _
  refine sv_if_eq (pc := 7) (tgt := 26) (sv_d k_Mo_miles 5 rfl) (by decide) ?_ ?_
  · refine sv_iconst (pc := 26) (v := (-1 : Int32)) (sv_d k_Mo_miles 14 rfl) (by decide) ?_
    refine sv_goto (pc := 27) (tgt := 37) (sv_d k_Mo_miles 15 rfl) (by decide) ?_
    exact sv_ret (pc := 37) (sv_d k_Mo_miles 21 rfl) ⟨_, rfl, rfl⟩ rfl
  · refine sv_aload_n (pc := 10) 0 (sv_d k_Mo_miles 6 rfl) rfl rfl ?_
    refine sv_iload_n (pc := 11) 2 (sv_d k_Mo_miles 7 rfl) rfl rfl ?_
    refine sv_callV (pc := 12) (ψ := (ss_pi s)) (As := [.int x2]) (rest := []) (c := 187) (sv_d k_Mo_miles 8 rfl) g_Mo_isStation w1557 in_Mo_isStation se_Mo_isStation cf12 kd187 (ss_lt (by decide)) rfl (Nat.le_of_ble_eq_true rfl) (V_Mo_isStation E (d + 0) x2 s) (Nat.le_of_ble_eq_true rfl) rfl (fun r2 => ?_)
    show sv_V E _ _ _ 15 _ [.int r2] (ss_e s) _
    refine sv_if_eq (pc := 15) (tgt := 26) (sv_d k_Mo_miles 9 rfl) (by decide) ?_ ?_
    · refine sv_iconst (pc := 26) (v := (-1 : Int32)) (sv_d k_Mo_miles 14 rfl) (by decide) ?_
      refine sv_goto (pc := 27) (tgt := 37) (sv_d k_Mo_miles 15 rfl) (by decide) ?_
      exact sv_ret (pc := 37) (sv_d k_Mo_miles 21 rfl) ⟨_, rfl, rfl⟩ rfl
    · refine sv_aload_n (pc := 18) 0 (sv_d k_Mo_miles 10 rfl) rfl rfl ?_
      refine sv_iload_n (pc := 19) 3 (sv_d k_Mo_miles 11 rfl) rfl rfl ?_
      refine sv_callV (pc := 20) (ψ := (ss_pi s)) (As := [.int x3]) (rest := []) (c := 187) (sv_d k_Mo_miles 12 rfl) g_Mo_isStation w1557 in_Mo_isStation se_Mo_isStation cf12 kd187 (ss_lt (by decide)) rfl (Nat.le_of_ble_eq_true rfl) (V_Mo_isStation E (d + 0) x3 s) (Nat.le_of_ble_eq_true rfl) rfl (fun r3 => ?_)
      show sv_V E _ _ _ 23 _ [.int r3] (ss_e s) _
      refine sv_if_ne (pc := 23) (tgt := 30) (sv_d k_Mo_miles 13 rfl) (by decide) ?_ ?_
      · refine sv_aload_n (pc := 30) 0 (sv_d k_Mo_miles 16 rfl) rfl rfl ?_
        refine sv_iload_n (pc := 31) 1 (sv_d k_Mo_miles 17 rfl) rfl rfl ?_
        refine sv_iload_n (pc := 32) 2 (sv_d k_Mo_miles 18 rfl) rfl rfl ?_
        refine sv_iload_n (pc := 33) 3 (sv_d k_Mo_miles 19 rfl) rfl rfl ?_
        refine sv_callV (pc := 34) (ψ := ss_i) (As := [.int x1, .int x2, .int x3]) (rest := []) (c := 187) (sv_d k_Mo_miles 20 rfl) g_Mo_milesBy w1565 in_Mo_milesBy se_Mo_milesBy cf12 kd187 (ss_lt (by decide)) rfl (Nat.le_of_ble_eq_true rfl) (V_Mo_milesBy E (d + 0) x1 x2 x3 s) (Nat.le_of_ble_eq_true rfl) rfl (fun r4 => ?_)
        show sv_V E _ _ _ 37 _ [.int r4.1] (ss_e r4.2) _
        exact sv_ret (pc := 37) (sv_d k_Mo_miles 21 rfl) ⟨_, rfl, rfl⟩ rfl
      · refine sv_iconst (pc := 26) (v := (-1 : Int32)) (sv_d k_Mo_miles 14 rfl) (by decide) ?_
        refine sv_goto (pc := 27) (tgt := 37) (sv_d k_Mo_miles 15 rfl) (by decide) ?_
        exact sv_ret (pc := 37) (sv_d k_Mo_miles 21 rfl) ⟨_, rfl, rfl⟩ rfl
/-! Mo_lineFor -/
abbrev m_Mo_lineFor : sv_M := (yX12_lineFor, cX12_lineFor, 5, (some .int))
def t_Mo_lineFor : List (Nat × Instr × Nat) := [(0, .iconst (-1), 1), (1, .istore_n 3, 1), (2, .iconst 0, 1), (3, .istore 4, 2), (5, .iload 4, 2), (7, .aload_n 0, 1), (8, .getfield 13, 3), (11, .if_icmp .ge 76, 3), (14, .aload_n 0, 1), (15, .getfield 20, 3), (18, .iload 4, 2), (20, .iaload, 1), (21, .iload_n 1, 1), (22, .if_icmp .ne 14, 3), (25, .aload_n 0, 1), (26, .getfield 23, 3), (29, .iload 4, 2), (31, .iaload, 1), (32, .iload_n 2, 1), (33, .if_icmp .eq 25, 3), (36, .aload_n 0, 1), (37, .getfield 20, 3), (40, .iload 4, 2), (42, .iaload, 1), (43, .iload_n 2, 1), (44, .if_icmp .ne 37, 3), (47, .aload_n 0, 1), (48, .getfield 23, 3), (51, .iload 4, 2), (53, .iaload, 1), (54, .iload_n 1, 1), (55, .if_icmp .ne 26, 3), (58, .iload_n 3, 1), (59, .ifCond .lt 19, 3), (62, .aload_n 0, 1), (63, .getfield 26, 3), (66, .iload 4, 2), (68, .iaload, 1), (69, .aload_n 0, 1), (70, .getfield 26, 3), (73, .iload_n 3, 1), (74, .iaload, 1), (75, .if_icmp .ge 6, 3), (78, .iload 4, 2), (80, .istore_n 3, 1), (81, .iinc 4 1, 3), (84, .goto (-79), 3), (87, .iload_n 3, 1), (88, .ireturn, 1)]
theorem k_Mo_lineFor : sv_tk m_Mo_lineFor.2.1 t_Mo_lineFor := by decide +kernel
theorem g_Mo_lineFor : sv_G m_Mo_lineFor 2 := ⟨by decide +kernel, sv_in 1585 (by decide +kernel) rfl, sv_in 103 (by decide +kernel) rfl, ⟨by decide, by decide⟩, by decide +kernel, by decide⟩
theorem in_Mo_lineFor : Cond.instanceMethod m_Mo_lineFor.1 ∈ sv_T := sv_in 1584 (by decide +kernel) rfl
theorem se_Mo_lineFor : Cond.selects m_Mo_lineFor.1.cls m_Mo_lineFor.1 m_Mo_lineFor.1 ∈ sv_T := sv_in 40 (by decide +kernel) rfl
def F_Mo_lineFor_b81 (s : sv_S) (kc5 : Int32 → Int32 → Int32 → Int32 → Option (Int32)) (x1 : Int32) (x2 : Int32) (x3 : Int32) (x4 : Int32) : Option (Int32) :=
  ss_let (x4 + (1 : Int32)) fun v1 =>
  kc5 x1 x2 x3 v1
theorem V_Mo_lineFor_b81 (E : sv_E) (d : Nat) (s : sv_S) (kc5 : Int32 → Int32 → Int32 → Int32 → Option (Int32)) (hc5 : ∀ (x1 : Int32) (x2 : Int32) (x3 : Int32) (x4 : Int32), sv_V E m_Mo_lineFor (d + 0) (ss_pi s) 5 [(0, sv_r E 187), (1, .int x1), (2, .int x2), (3, .int x3), (4, .int x4)] [] (ss_e s) (kc5 x1 x2 x3 x4)) (x1 : Int32) (x2 : Int32) (x3 : Int32) (x4 : Int32) : sv_V E m_Mo_lineFor (d + 0) (ss_pi s) 81 [(0, sv_r E 187), (1, .int x1), (2, .int x2), (3, .int x3), (4, .int x4)] [] (ss_e s) (F_Mo_lineFor_b81 s kc5 x1 x2 x3 x4) := by
  unfold F_Mo_lineFor_b81
  refine ss_letr (fun v1 e_v1 => ?_)
  refine sv_iinc (pc := 81) (v := v1) (lv' := [(4, .int v1), (0, sv_r E 187), (1, .int x1), (2, .int x2), (3, .int x3)]) (sv_d k_Mo_lineFor 45 rfl) (n := 4) rfl (by rw [e_v1]; rfl) (by decide) rfl ?_
  refine sv_goto (pc := 84) (tgt := 5) (sv_d k_Mo_lineFor 46 rfl) (by decide) ?_
  exact sv_loc [1, 2, 3, 4, 0] rfl (hc5 x1 x2 x3 v1)
def F_Mo_lineFor_b78 (s : sv_S) (kc5 : Int32 → Int32 → Int32 → Int32 → Option (Int32)) (x1 : Int32) (x2 : Int32) (x4 : Int32) : Option (Int32) :=
  F_Mo_lineFor_b81 s kc5 x1 x2 x4 x4
theorem V_Mo_lineFor_b78 (E : sv_E) (d : Nat) (s : sv_S) (kc5 : Int32 → Int32 → Int32 → Int32 → Option (Int32)) (hc5 : ∀ (x1 : Int32) (x2 : Int32) (x3 : Int32) (x4 : Int32), sv_V E m_Mo_lineFor (d + 0) (ss_pi s) 5 [(0, sv_r E 187), (1, .int x1), (2, .int x2), (3, .int x3), (4, .int x4)] [] (ss_e s) (kc5 x1 x2 x3 x4)) (x1 : Int32) (x2 : Int32) (x4 : Int32) : sv_V E m_Mo_lineFor (d + 0) (ss_pi s) 78 [(0, sv_r E 187), (1, .int x1), (2, .int x2), (4, .int x4)] [] (ss_e s) (F_Mo_lineFor_b78 s kc5 x1 x2 x4) := by
  unfold F_Mo_lineFor_b78
  refine sv_iload (pc := 78) 3 (sv_d k_Mo_lineFor 43 rfl) rfl ?_
  refine sv_istore_n (pc := 80) (lv' := [(3, .int x4), (0, sv_r E 187), (1, .int x1), (2, .int x2), (4, .int x4)]) (sv_d k_Mo_lineFor 44 rfl) rfl (by decide) rfl ?_
  exact sv_loc [1, 2, 3, 0, 4] rfl (V_Mo_lineFor_b81 E d s kc5 hc5 x1 x2 x4 x4)
def F_Mo_lineFor_b58 (s : sv_S) (kc5 : Int32 → Int32 → Int32 → Int32 → Option (Int32)) (x1 : Int32) (x2 : Int32) (x3 : Int32) (x4 : Int32) : Option (Int32) :=
  if x3 < 0 then
    F_Mo_lineFor_b78 s kc5 x1 x2 x4
  else
  if sv_ib x4 40 = true then
    if sv_ib x3 40 = true then
      if (s.1 191 x3.toNatClampNeg) ≤ (s.1 191 x4.toNatClampNeg) then
        F_Mo_lineFor_b81 s kc5 x1 x2 x3 x4
      else
      F_Mo_lineFor_b78 s kc5 x1 x2 x4
    else none
  else none
theorem V_Mo_lineFor_b58 (E : sv_E) (d : Nat) (s : sv_S) (kc5 : Int32 → Int32 → Int32 → Int32 → Option (Int32)) (hc5 : ∀ (x1 : Int32) (x2 : Int32) (x3 : Int32) (x4 : Int32), sv_V E m_Mo_lineFor (d + 0) (ss_pi s) 5 [(0, sv_r E 187), (1, .int x1), (2, .int x2), (3, .int x3), (4, .int x4)] [] (ss_e s) (kc5 x1 x2 x3 x4)) (x1 : Int32) (x2 : Int32) (x3 : Int32) (x4 : Int32) : sv_V E m_Mo_lineFor (d + 0) (ss_pi s) 58 [(0, sv_r E 187), (1, .int x1), (2, .int x2), (3, .int x3), (4, .int x4)] [] (ss_e s) (F_Mo_lineFor_b58 s kc5 x1 x2 x3 x4) := by
  unfold F_Mo_lineFor_b58
  refine sv_iload_n (pc := 58) 3 (sv_d k_Mo_lineFor 32 rfl) rfl rfl ?_
  refine sv_if_lt (pc := 59) (tgt := 78) (sv_d k_Mo_lineFor 33 rfl) (by decide) ?_ ?_
  · exact sv_loc [0, 1, 2, 4] rfl (V_Mo_lineFor_b78 E d s kc5 hc5 x1 x2 x4)
  · refine sv_aload_n (pc := 62) 0 (sv_d k_Mo_lineFor 34 rfl) rfl rfl ?_
    refine sv_getf (pc := 63) 5 (sv_d k_Mo_lineFor 35 rfl) cf12 (by decide) w1307 kd187 (ss_lt (by decide)) (lr_187_5 E _) ?_
    refine sv_iload (pc := 66) 4 (sv_d k_Mo_lineFor 36 rfl) rfl ?_
    refine ss_iald (pc := 68) (n := 40) (sv_d k_Mo_lineFor 37 rfl) kd191 (ss_lt (by decide)) rfl ?_
    refine sv_aload_n (pc := 69) 0 (sv_d k_Mo_lineFor 38 rfl) rfl rfl ?_
    refine sv_getf (pc := 70) 5 (sv_d k_Mo_lineFor 39 rfl) cf12 (by decide) w1307 kd187 (ss_lt (by decide)) (lr_187_5 E _) ?_
    refine sv_iload_n (pc := 73) 3 (sv_d k_Mo_lineFor 40 rfl) rfl rfl ?_
    refine ss_iald (pc := 74) (n := 40) (sv_d k_Mo_lineFor 41 rfl) kd191 (ss_lt (by decide)) rfl ?_
    refine sv_icmp_ge (pc := 75) (tgt := 81) (sv_d k_Mo_lineFor 42 rfl) (by decide) ?_ ?_
    · exact sv_loc [0, 1, 2, 3, 4] rfl (V_Mo_lineFor_b81 E d s kc5 hc5 x1 x2 x3 x4)
    · exact sv_loc [0, 1, 2, 4] rfl (V_Mo_lineFor_b78 E d s kc5 hc5 x1 x2 x4)
def F_Mo_lineFor_b36 (s : sv_S) (kc5 : Int32 → Int32 → Int32 → Int32 → Option (Int32)) (x1 : Int32) (x2 : Int32) (x3 : Int32) (x4 : Int32) : Option (Int32) :=
  if sv_ib x4 40 = true then
    if (s.1 189 x4.toNatClampNeg) = x2 then
      if sv_ib x4 40 = true then
        if (s.1 190 x4.toNatClampNeg) = x1 then
          F_Mo_lineFor_b58 s kc5 x1 x2 x3 x4
        else
        F_Mo_lineFor_b81 s kc5 x1 x2 x3 x4
      else none
    else
    F_Mo_lineFor_b81 s kc5 x1 x2 x3 x4
  else none
theorem V_Mo_lineFor_b36 (E : sv_E) (d : Nat) (s : sv_S) (kc5 : Int32 → Int32 → Int32 → Int32 → Option (Int32)) (hc5 : ∀ (x1 : Int32) (x2 : Int32) (x3 : Int32) (x4 : Int32), sv_V E m_Mo_lineFor (d + 0) (ss_pi s) 5 [(0, sv_r E 187), (1, .int x1), (2, .int x2), (3, .int x3), (4, .int x4)] [] (ss_e s) (kc5 x1 x2 x3 x4)) (x1 : Int32) (x2 : Int32) (x3 : Int32) (x4 : Int32) : sv_V E m_Mo_lineFor (d + 0) (ss_pi s) 36 [(0, sv_r E 187), (1, .int x1), (2, .int x2), (3, .int x3), (4, .int x4)] [] (ss_e s) (F_Mo_lineFor_b36 s kc5 x1 x2 x3 x4) := by
  unfold F_Mo_lineFor_b36
  refine sv_aload_n (pc := 36) 0 (sv_d k_Mo_lineFor 20 rfl) rfl rfl ?_
  refine sv_getf (pc := 37) 3 (sv_d k_Mo_lineFor 21 rfl) cf12 (by decide) w1305 kd187 (ss_lt (by decide)) (lr_187_3 E _) ?_
  refine sv_iload (pc := 40) 4 (sv_d k_Mo_lineFor 22 rfl) rfl ?_
  refine ss_iald (pc := 42) (n := 40) (sv_d k_Mo_lineFor 23 rfl) kd189 (ss_lt (by decide)) rfl ?_
  refine sv_iload_n (pc := 43) 2 (sv_d k_Mo_lineFor 24 rfl) rfl rfl ?_
  refine sv_icmp_ne (pc := 44) (tgt := 81) (sv_d k_Mo_lineFor 25 rfl) (by decide) ?_ ?_
  · exact sv_loc [0, 1, 2, 3, 4] rfl (V_Mo_lineFor_b81 E d s kc5 hc5 x1 x2 x3 x4)
  · refine sv_aload_n (pc := 47) 0 (sv_d k_Mo_lineFor 26 rfl) rfl rfl ?_
    refine sv_getf (pc := 48) 4 (sv_d k_Mo_lineFor 27 rfl) cf12 (by decide) w1306 kd187 (ss_lt (by decide)) (lr_187_4 E _) ?_
    refine sv_iload (pc := 51) 4 (sv_d k_Mo_lineFor 28 rfl) rfl ?_
    refine ss_iald (pc := 53) (n := 40) (sv_d k_Mo_lineFor 29 rfl) kd190 (ss_lt (by decide)) rfl ?_
    refine sv_iload_n (pc := 54) 1 (sv_d k_Mo_lineFor 30 rfl) rfl rfl ?_
    refine sv_icmp_ne (pc := 55) (tgt := 81) (sv_d k_Mo_lineFor 31 rfl) (by decide) ?_ ?_
    · exact sv_loc [0, 1, 2, 3, 4] rfl (V_Mo_lineFor_b81 E d s kc5 hc5 x1 x2 x3 x4)
    · exact sv_loc [0, 1, 2, 3, 4] rfl (V_Mo_lineFor_b58 E d s kc5 hc5 x1 x2 x3 x4)
def F_Mo_lineFor_b5 (s : sv_S) : Nat → Int32 → Int32 → Int32 → Int32 → Option (Int32)
  | 0 => fun _ _ _ _ => none
  | n + 1 => fun x1 x2 x3 x4 =>
    if (s.1 187 1) ≤ x4 then
      some x3
    else
    if sv_ib x4 40 = true then
      if (s.1 189 x4.toNatClampNeg) = x1 then
        if sv_ib x4 40 = true then
          if (s.1 190 x4.toNatClampNeg) = x2 then
            F_Mo_lineFor_b58 s (F_Mo_lineFor_b5 s n) x1 x2 x3 x4
          else
          F_Mo_lineFor_b36 s (F_Mo_lineFor_b5 s n) x1 x2 x3 x4
        else none
      else
      F_Mo_lineFor_b36 s (F_Mo_lineFor_b5 s n) x1 x2 x3 x4
    else none
theorem V_Mo_lineFor_b5 (E : sv_E) (d : Nat) (s : sv_S) : ∀ (n : Nat) (x1 : Int32) (x2 : Int32) (x3 : Int32) (x4 : Int32), sv_V E m_Mo_lineFor (d + 0) (ss_pi s) 5 [(0, sv_r E 187), (1, .int x1), (2, .int x2), (3, .int x3), (4, .int x4)] [] (ss_e s) (F_Mo_lineFor_b5 s n x1 x2 x3 x4) := by
  intro n
  induction n with
  | zero => intro x1 x2 x3 x4; exact sv_none
  | succ n ih =>
    intro x1 x2 x3 x4
    unfold F_Mo_lineFor_b5
    refine sv_iload (pc := 5) 4 (sv_d k_Mo_lineFor 4 rfl) rfl ?_
    refine sv_aload_n (pc := 7) 0 (sv_d k_Mo_lineFor 5 rfl) rfl rfl ?_
    refine sv_getf (pc := 8) 1 (sv_d k_Mo_lineFor 6 rfl) cf12 (by decide) w1303 kd187 (ss_lt (by decide)) rfl ?_
    refine sv_icmp_ge (pc := 11) (tgt := 87) (sv_d k_Mo_lineFor 7 rfl) (by decide) ?_ ?_
    · refine sv_iload_n (pc := 87) 3 (sv_d k_Mo_lineFor 47 rfl) rfl rfl ?_
      exact sv_ret (pc := 88) (sv_d k_Mo_lineFor 48 rfl) ⟨_, rfl, rfl⟩ rfl
    · refine sv_aload_n (pc := 14) 0 (sv_d k_Mo_lineFor 8 rfl) rfl rfl ?_
      refine sv_getf (pc := 15) 3 (sv_d k_Mo_lineFor 9 rfl) cf12 (by decide) w1305 kd187 (ss_lt (by decide)) (lr_187_3 E _) ?_
      refine sv_iload (pc := 18) 4 (sv_d k_Mo_lineFor 10 rfl) rfl ?_
      refine ss_iald (pc := 20) (n := 40) (sv_d k_Mo_lineFor 11 rfl) kd189 (ss_lt (by decide)) rfl ?_
      refine sv_iload_n (pc := 21) 1 (sv_d k_Mo_lineFor 12 rfl) rfl rfl ?_
      refine sv_icmp_ne (pc := 22) (tgt := 36) (sv_d k_Mo_lineFor 13 rfl) (by decide) ?_ ?_
      · exact sv_loc [0, 1, 2, 3, 4] rfl (V_Mo_lineFor_b36 E d s (F_Mo_lineFor_b5 s n) ih x1 x2 x3 x4)
      · refine sv_aload_n (pc := 25) 0 (sv_d k_Mo_lineFor 14 rfl) rfl rfl ?_
        refine sv_getf (pc := 26) 4 (sv_d k_Mo_lineFor 15 rfl) cf12 (by decide) w1306 kd187 (ss_lt (by decide)) (lr_187_4 E _) ?_
        refine sv_iload (pc := 29) 4 (sv_d k_Mo_lineFor 16 rfl) rfl ?_
        refine ss_iald (pc := 31) (n := 40) (sv_d k_Mo_lineFor 17 rfl) kd190 (ss_lt (by decide)) rfl ?_
        refine sv_iload_n (pc := 32) 2 (sv_d k_Mo_lineFor 18 rfl) rfl rfl ?_
        refine sv_icmp_eq (pc := 33) (tgt := 58) (sv_d k_Mo_lineFor 19 rfl) (by decide) ?_ ?_
        · exact sv_loc [0, 1, 2, 3, 4] rfl (V_Mo_lineFor_b58 E d s (F_Mo_lineFor_b5 s n) ih x1 x2 x3 x4)
        · exact sv_loc [0, 1, 2, 3, 4] rfl (V_Mo_lineFor_b36 E d s (F_Mo_lineFor_b5 s n) ih x1 x2 x3 x4)
def F_Mo_lineFor (x1 : Int32) (x2 : Int32) (s : sv_S) : Option (Int32) :=
  F_Mo_lineFor_b5 s ss_F x1 x2 (-1 : Int32) (0 : Int32)
theorem V_Mo_lineFor (E : sv_E) (d : Nat) (x1 : Int32) (x2 : Int32) (s : sv_S) : sv_V E m_Mo_lineFor (d + 0) (ss_pi s) 0 (lv_args 0 [sv_r E 187, .int x1, .int x2]) [] (ss_e s) (F_Mo_lineFor x1 x2 s) := by
  show sv_V E m_Mo_lineFor (d + 0) (ss_pi s) 0 [(0, sv_r E 187), (1, .int x1), (2, .int x2)] [] (ss_e s) _
  unfold F_Mo_lineFor
  refine sv_iconst (pc := 0) (v := (-1 : Int32)) (sv_d k_Mo_lineFor 0 rfl) (by decide) ?_
  refine sv_istore_n (pc := 1) (lv' := [(3, .int (-1 : Int32)), (0, sv_r E 187), (1, .int x1), (2, .int x2)]) (sv_d k_Mo_lineFor 1 rfl) rfl (by decide) rfl ?_
  refine sv_iconst (pc := 2) (v := (0 : Int32)) (sv_d k_Mo_lineFor 2 rfl) (by decide) ?_
  refine sv_istore (pc := 3) (lv' := [(4, .int (0 : Int32)), (3, .int (-1 : Int32)), (0, sv_r E 187), (1, .int x1), (2, .int x2)]) (sv_d k_Mo_lineFor 3 rfl) (by decide) rfl ?_
  exact sv_loc [2, 3, 4, 1, 0] rfl (V_Mo_lineFor_b5 E d s ss_F x1 x2 (-1 : Int32) (0 : Int32))
/-! Mo_findWay -/
abbrev m_Mo_findWay : sv_M := (yX12_findWay, cX12_findWay, 5, (some .boolean))
def t_Mo_findWay : List (Nat × Instr × Nat) := [(0, .aload_n 0, 1), (1, .iconst (-1), 1), (2, .invokevirtual 263, 3), (5, .aload_n 0, 1), (6, .iconst 0, 1), (7, .putfield 38, 3), (10, .aload_n 0, 1), (11, .getfield 29, 3), (14, .bipush 16, 2), (16, .iload_n 1, 1), (17, .imul, 1), (18, .iload_n 2, 1), (19, .iadd, 1), (20, .iaload, 1), (21, .ldc_w 262, 3), (24, .if_icmp .lt 5, 3), (27, .iconst 0, 1), (28, .ireturn, 1), (29, .iload_n 1, 1), (30, .istore_n 3, 1), (31, .iload_n 3, 1), (32, .iload_n 2, 1), (33, .if_icmp .eq 107, 3), (36, .iconst 0, 1), (37, .istore 4, 2), (39, .iload 4, 2), (41, .iload_n 3, 1), (42, .if_icmp .eq 60, 3), (45, .aload_n 0, 1), (46, .getfield 32, 3), (49, .bipush 16, 2), (51, .iload_n 3, 1), (52, .imul, 1), (53, .iload 4, 2), (55, .iadd, 1), (56, .iaload, 1), (57, .ldc_w 262, 3), (60, .if_icmp .ge 42, 3), (63, .aload_n 0, 1), (64, .getfield 32, 3), (67, .bipush 16, 2), (69, .iload_n 3, 1), (70, .imul, 1), (71, .iload 4, 2), (73, .iadd, 1), (74, .iaload, 1), (75, .aload_n 0, 1), (76, .getfield 29, 3), (79, .bipush 16, 2), (81, .iload 4, 2), (83, .imul, 1), (84, .iload_n 2, 1), (85, .iadd, 1), (86, .iaload, 1), (87, .iadd, 1), (88, .aload_n 0, 1), (89, .getfield 29, 3), (92, .bipush 16, 2), (94, .iload_n 3, 1), (95, .imul, 1), (96, .iload_n 2, 1), (97, .iadd, 1), (98, .iaload, 1), (99, .if_icmp .eq 9, 3), (102, .iinc 4 1, 3), (105, .goto (-66), 3), (108, .aload_n 0, 1), (109, .getfield 35, 3), (112, .aload_n 0, 1), (113, .getfield 38, 3), (116, .aload_n 0, 1), (117, .iload_n 3, 1), (118, .iload 4, 2), (120, .invokevirtual 271, 3), (123, .iastore, 1), (124, .aload_n 0, 1), (125, .dup, 1), (126, .getfield 38, 3), (129, .iconst 1, 1), (130, .iadd, 1), (131, .putfield 38, 3), (134, .iload 4, 2), (136, .istore_n 3, 1), (137, .goto (-106), 3), (140, .iconst 1, 1), (141, .ireturn, 1)]
theorem k_Mo_findWay : sv_tk m_Mo_findWay.2.1 t_Mo_findWay := by decide +kernel
theorem g_Mo_findWay : sv_G m_Mo_findWay 2 := ⟨by decide +kernel, sv_in 1581 (by decide +kernel) rfl, sv_in 103 (by decide +kernel) rfl, ⟨by decide, by decide⟩, by decide +kernel, by decide⟩
theorem in_Mo_findWay : Cond.instanceMethod m_Mo_findWay.1 ∈ sv_T := sv_in 1580 (by decide +kernel) rfl
theorem se_Mo_findWay : Cond.selects m_Mo_findWay.1.cls m_Mo_findWay.1 m_Mo_findWay.1 ∈ sv_T := sv_in 39 (by decide +kernel) rfl
def F_Mo_findWay_b102 (kc31 : Int32 → Int32 → sv_S → Option (Int32 × sv_S)) (kc39 : Int32 → Int32 → Int32 → sv_S → Option (Int32 × sv_S)) (x2 : Int32) (x3 : Int32) (x4 : Int32) (s : sv_S) : Option (Int32 × sv_S) :=
  ss_let (x4 + (1 : Int32)) fun v3 =>
  kc39 x2 x3 v3 s
theorem V_Mo_findWay_b102 (E : sv_E) (d : Nat) (kc31 : Int32 → Int32 → sv_S → Option (Int32 × sv_S)) (kc39 : Int32 → Int32 → Int32 → sv_S → Option (Int32 × sv_S)) (hc31 : ∀ (x2 : Int32) (x3 : Int32) (s : sv_S), sv_V E m_Mo_findWay (d + 1) ss_i 31 [(0, sv_r E 187), (2, .int x2), (3, .int x3)] [] (ss_e s) (kc31 x2 x3 s)) (hc39 : ∀ (x2 : Int32) (x3 : Int32) (x4 : Int32) (s : sv_S), sv_V E m_Mo_findWay (d + 1) ss_i 39 [(0, sv_r E 187), (2, .int x2), (3, .int x3), (4, .int x4)] [] (ss_e s) (kc39 x2 x3 x4 s)) (x2 : Int32) (x3 : Int32) (x4 : Int32) (s : sv_S) : sv_V E m_Mo_findWay (d + 1) ss_i 102 [(0, sv_r E 187), (2, .int x2), (3, .int x3), (4, .int x4)] [] (ss_e s) (F_Mo_findWay_b102 kc31 kc39 x2 x3 x4 s) := by
  unfold F_Mo_findWay_b102
  refine ss_letr (fun v3 e_v3 => ?_)
  refine sv_iinc (pc := 102) (v := v3) (lv' := [(4, .int v3), (0, sv_r E 187), (2, .int x2), (3, .int x3)]) (sv_d k_Mo_findWay 64 rfl) (n := 3) rfl (by rw [e_v3]; rfl) (by decide) rfl ?_
  refine sv_goto (pc := 105) (tgt := 39) (sv_d k_Mo_findWay 65 rfl) (by decide) ?_
  exact sv_loc [1, 2, 3, 0] rfl (hc39 x2 x3 v3 s)
def F_Mo_findWay_b39 (kc31 : Int32 → Int32 → sv_S → Option (Int32 × sv_S)) : Nat → Int32 → Int32 → Int32 → sv_S → Option (Int32 × sv_S)
  | 0 => fun _ _ _ _ => none
  | n + 1 => fun x2 x3 x4 s =>
    if x4 = x3 then
      F_Mo_findWay_b102 kc31 (F_Mo_findWay_b39 kc31 n) x2 x3 x4 s
    else
    if sv_ib (((16 : Int32) * x3) + x4) 256 = true then
      if (100000 : Int32) ≤ (s.1 193 (((16 : Int32) * x3) + x4).toNatClampNeg) then
        F_Mo_findWay_b102 kc31 (F_Mo_findWay_b39 kc31 n) x2 x3 x4 s
      else
      if sv_ib (((16 : Int32) * x3) + x4) 256 = true then
        if sv_ib (((16 : Int32) * x4) + x2) 256 = true then
          if sv_ib (((16 : Int32) * x3) + x2) 256 = true then
            if ((s.1 193 (((16 : Int32) * x3) + x4).toNatClampNeg) + (s.1 192 (((16 : Int32) * x4) + x2).toNatClampNeg)) = (s.1 192 (((16 : Int32) * x3) + x2).toNatClampNeg) then
              (F_Mo_lineFor x3 x4 s).bind fun r4 =>
              if sv_ib (s.1 187 9) 16 = true then
                ss_let (ss_setI s 194 (s.1 187 9).toNatClampNeg r4) fun s5 =>
                ss_let (ss_setI s5 187 9 ((s5.1 187 9) + (1 : Int32))) fun s6 =>
                kc31 x2 x4 s6
              else none
            else
            F_Mo_findWay_b102 kc31 (F_Mo_findWay_b39 kc31 n) x2 x3 x4 s
          else none
        else none
      else none
    else none
theorem V_Mo_findWay_b39 (E : sv_E) (d : Nat) (kc31 : Int32 → Int32 → sv_S → Option (Int32 × sv_S)) (hc31 : ∀ (x2 : Int32) (x3 : Int32) (s : sv_S), sv_V E m_Mo_findWay (d + 1) ss_i 31 [(0, sv_r E 187), (2, .int x2), (3, .int x3)] [] (ss_e s) (kc31 x2 x3 s)) : ∀ (n : Nat) (x2 : Int32) (x3 : Int32) (x4 : Int32) (s : sv_S), sv_V E m_Mo_findWay (d + 1) ss_i 39 [(0, sv_r E 187), (2, .int x2), (3, .int x3), (4, .int x4)] [] (ss_e s) (F_Mo_findWay_b39 kc31 n x2 x3 x4 s) := by
  intro n
  induction n with
  | zero => intro x2 x3 x4 s; exact sv_none
  | succ n ih =>
    intro x2 x3 x4 s
    unfold F_Mo_findWay_b39
    refine sv_iload (pc := 39) 3 (sv_d k_Mo_findWay 25 rfl) rfl ?_
    refine sv_iload_n (pc := 41) 2 (sv_d k_Mo_findWay 26 rfl) rfl rfl ?_
    refine sv_icmp_eq (pc := 42) (tgt := 102) (sv_d k_Mo_findWay 27 rfl) (by decide) ?_ ?_
    · exact sv_loc [0, 1, 2, 3] rfl (V_Mo_findWay_b102 E d kc31 (F_Mo_findWay_b39 kc31 n) hc31 ih x2 x3 x4 s)
    · refine sv_aload_n (pc := 45) 0 (sv_d k_Mo_findWay 28 rfl) rfl rfl ?_
      refine sv_getf (pc := 46) 7 (sv_d k_Mo_findWay 29 rfl) cf12 (by decide) w1309 kd187 (ss_lt (by decide)) (lr_187_7 E _) ?_
      refine sv_bipush (pc := 49) (v := (16 : Int32)) (sv_d k_Mo_findWay 30 rfl) (by decide) ?_
      refine sv_iload_n (pc := 51) 2 (sv_d k_Mo_findWay 31 rfl) rfl rfl ?_
      refine sv_imul (pc := 52) (sv_d k_Mo_findWay 32 rfl) ?_
      refine sv_iload (pc := 53) 3 (sv_d k_Mo_findWay 33 rfl) rfl ?_
      refine sv_iadd (pc := 55) (sv_d k_Mo_findWay 34 rfl) ?_
      refine ss_iald (pc := 56) (n := 256) (sv_d k_Mo_findWay 35 rfl) kd193 (ss_lt (by decide)) rfl ?_
      refine sv_ldcw (pc := 57) (v := (100000 : Int32)) w1573 (sv_d k_Mo_findWay 36 rfl) ?_
      refine sv_icmp_ge (pc := 60) (tgt := 102) (sv_d k_Mo_findWay 37 rfl) (by decide) ?_ ?_
      · exact sv_loc [0, 1, 2, 3] rfl (V_Mo_findWay_b102 E d kc31 (F_Mo_findWay_b39 kc31 n) hc31 ih x2 x3 x4 s)
      · refine sv_aload_n (pc := 63) 0 (sv_d k_Mo_findWay 38 rfl) rfl rfl ?_
        refine sv_getf (pc := 64) 7 (sv_d k_Mo_findWay 39 rfl) cf12 (by decide) w1309 kd187 (ss_lt (by decide)) (lr_187_7 E _) ?_
        refine sv_bipush (pc := 67) (v := (16 : Int32)) (sv_d k_Mo_findWay 40 rfl) (by decide) ?_
        refine sv_iload_n (pc := 69) 2 (sv_d k_Mo_findWay 41 rfl) rfl rfl ?_
        refine sv_imul (pc := 70) (sv_d k_Mo_findWay 42 rfl) ?_
        refine sv_iload (pc := 71) 3 (sv_d k_Mo_findWay 43 rfl) rfl ?_
        refine sv_iadd (pc := 73) (sv_d k_Mo_findWay 44 rfl) ?_
        refine ss_iald (pc := 74) (n := 256) (sv_d k_Mo_findWay 45 rfl) kd193 (ss_lt (by decide)) rfl ?_
        refine sv_aload_n (pc := 75) 0 (sv_d k_Mo_findWay 46 rfl) rfl rfl ?_
        refine sv_getf (pc := 76) 6 (sv_d k_Mo_findWay 47 rfl) cf12 (by decide) w1308 kd187 (ss_lt (by decide)) (lr_187_6 E _) ?_
        refine sv_bipush (pc := 79) (v := (16 : Int32)) (sv_d k_Mo_findWay 48 rfl) (by decide) ?_
        refine sv_iload (pc := 81) 3 (sv_d k_Mo_findWay 49 rfl) rfl ?_
        refine sv_imul (pc := 83) (sv_d k_Mo_findWay 50 rfl) ?_
        refine sv_iload_n (pc := 84) 1 (sv_d k_Mo_findWay 51 rfl) rfl rfl ?_
        refine sv_iadd (pc := 85) (sv_d k_Mo_findWay 52 rfl) ?_
        refine ss_iald (pc := 86) (n := 256) (sv_d k_Mo_findWay 53 rfl) kd192 (ss_lt (by decide)) rfl ?_
        refine sv_iadd (pc := 87) (sv_d k_Mo_findWay 54 rfl) ?_
        refine sv_aload_n (pc := 88) 0 (sv_d k_Mo_findWay 55 rfl) rfl rfl ?_
        refine sv_getf (pc := 89) 6 (sv_d k_Mo_findWay 56 rfl) cf12 (by decide) w1308 kd187 (ss_lt (by decide)) (lr_187_6 E _) ?_
        refine sv_bipush (pc := 92) (v := (16 : Int32)) (sv_d k_Mo_findWay 57 rfl) (by decide) ?_
        refine sv_iload_n (pc := 94) 2 (sv_d k_Mo_findWay 58 rfl) rfl rfl ?_
        refine sv_imul (pc := 95) (sv_d k_Mo_findWay 59 rfl) ?_
        refine sv_iload_n (pc := 96) 1 (sv_d k_Mo_findWay 60 rfl) rfl rfl ?_
        refine sv_iadd (pc := 97) (sv_d k_Mo_findWay 61 rfl) ?_
        refine ss_iald (pc := 98) (n := 256) (sv_d k_Mo_findWay 62 rfl) kd192 (ss_lt (by decide)) rfl ?_
        refine sv_icmp_eq (pc := 99) (tgt := 108) (sv_d k_Mo_findWay 63 rfl) (by decide) ?_ ?_
        · refine sv_aload_n (pc := 108) 0 (sv_d k_Mo_findWay 66 rfl) rfl rfl ?_
          refine sv_getf (pc := 109) 8 (sv_d k_Mo_findWay 67 rfl) cf12 (by decide) w1310 kd187 (ss_lt (by decide)) (lr_187_8 E _) ?_
          refine sv_aload_n (pc := 112) 0 (sv_d k_Mo_findWay 68 rfl) rfl rfl ?_
          refine sv_getf (pc := 113) 9 (sv_d k_Mo_findWay 69 rfl) cf12 (by decide) w1311 kd187 (ss_lt (by decide)) rfl ?_
          refine sv_aload_n (pc := 116) 0 (sv_d k_Mo_findWay 70 rfl) rfl rfl ?_
          refine sv_iload_n (pc := 117) 2 (sv_d k_Mo_findWay 71 rfl) rfl rfl ?_
          refine sv_iload (pc := 118) 3 (sv_d k_Mo_findWay 72 rfl) rfl ?_
          refine sv_callV (pc := 120) (ψ := (ss_pi s)) (As := [.int x3, .int x4]) (rest := [.int (s.1 187 9), sv_r E 194]) (c := 187) (sv_d k_Mo_findWay 73 rfl) g_Mo_lineFor w1582 in_Mo_lineFor se_Mo_lineFor cf12 kd187 (ss_lt (by decide)) rfl (Nat.le_of_ble_eq_true rfl) (V_Mo_lineFor E (d + 0) x3 x4 s) (Nat.le_of_ble_eq_true rfl) rfl (fun r4 => ?_)
          show sv_V E _ _ _ 123 _ [.int r4, .int (s.1 187 9), sv_r E 194] (ss_e s) _
          refine ss_iast (pc := 123) (n := 16) (sv_d k_Mo_findWay 74 rfl) kd194 (by decide) (ss_lt (by decide)) rfl (ss_lets (fun s5 e_s5 => ?_))
          refine sv_aload_n (pc := 124) 0 (sv_d k_Mo_findWay 75 rfl) rfl rfl ?_
          refine sv_dup (pc := 125) (sv_d k_Mo_findWay 76 rfl) rfl ?_
          refine sv_getf (pc := 126) 9 (sv_d k_Mo_findWay 77 rfl) cf12 (by decide) w1311 kd187 (ss_lt (by decide)) rfl ?_
          refine sv_iconst (pc := 129) (v := (1 : Int32)) (sv_d k_Mo_findWay 78 rfl) (by decide) ?_
          refine sv_iadd (pc := 130) (sv_d k_Mo_findWay 79 rfl) ?_
          refine ss_putI (pc := 131) 9 (sv_d k_Mo_findWay 80 rfl) cf12 (by decide) rfl w1311 kd187 (ss_lt (by decide)) rfl rfl (fun _ => rfl) (ss_lets (fun s6 e_s6 => ?_))
          refine sv_iload (pc := 134) 3 (sv_d k_Mo_findWay 81 rfl) rfl ?_
          refine sv_istore_n (pc := 136) (lv' := [(3, .int x4), (0, sv_r E 187), (2, .int x2), (4, .int x4)]) (sv_d k_Mo_findWay 82 rfl) rfl (by decide) rfl ?_
          refine sv_goto (pc := 137) (tgt := 31) (sv_d k_Mo_findWay 83 rfl) (by decide) ?_
          exact sv_loc [1, 2, 0] rfl (hc31 x2 x4 s6)
        · exact sv_loc [0, 1, 2, 3] rfl (V_Mo_findWay_b102 E d kc31 (F_Mo_findWay_b39 kc31 n) hc31 ih x2 x3 x4 s)
def F_Mo_findWay_b31 : Nat → Int32 → Int32 → sv_S → Option (Int32 × sv_S)
  | 0 => fun _ _ _ => none
  | n + 1 => fun x2 x3 s =>
    if x3 = x2 then
      some ((1 : Int32), s)
    else
    F_Mo_findWay_b39 (F_Mo_findWay_b31  n) ss_F x2 x3 (0 : Int32) s
theorem V_Mo_findWay_b31 (E : sv_E) (d : Nat) : ∀ (n : Nat) (x2 : Int32) (x3 : Int32) (s : sv_S), sv_V E m_Mo_findWay (d + 1) ss_i 31 [(0, sv_r E 187), (2, .int x2), (3, .int x3)] [] (ss_e s) (F_Mo_findWay_b31 n x2 x3 s) := by
  intro n
  induction n with
  | zero => intro x2 x3 s; exact sv_none
  | succ n ih =>
    intro x2 x3 s
    unfold F_Mo_findWay_b31
    refine sv_iload_n (pc := 31) 2 (sv_d k_Mo_findWay 20 rfl) rfl rfl ?_
    refine sv_iload_n (pc := 32) 1 (sv_d k_Mo_findWay 21 rfl) rfl rfl ?_
    refine sv_icmp_eq (pc := 33) (tgt := 140) (sv_d k_Mo_findWay 22 rfl) (by decide) ?_ ?_
    · refine sv_iconst (pc := 140) (v := (1 : Int32)) (sv_d k_Mo_findWay 84 rfl) (by decide) ?_
      exact sv_ret (pc := 141) (sv_d k_Mo_findWay 85 rfl) ⟨_, rfl, rfl⟩ rfl
    · refine sv_iconst (pc := 36) (v := (0 : Int32)) (sv_d k_Mo_findWay 23 rfl) (by decide) ?_
      refine sv_istore (pc := 37) (lv' := [(4, .int (0 : Int32)), (0, sv_r E 187), (2, .int x2), (3, .int x3)]) (sv_d k_Mo_findWay 24 rfl) (by decide) rfl ?_
      exact sv_loc [1, 2, 3, 0] rfl (V_Mo_findWay_b39 E d (F_Mo_findWay_b31  n) ih ss_F x2 x3 (0 : Int32) s)
def F_Mo_findWay (x1 : Int32) (x2 : Int32) (s : sv_S) : Option (Int32 × sv_S) :=
  (F_Mo_findFar (-1 : Int32) s).bind fun r1 =>
  ss_let (ss_setI r1 187 9 (0 : Int32)) fun s2 =>
  if sv_ib (((16 : Int32) * x1) + x2) 256 = true then
    if (s2.1 192 (((16 : Int32) * x1) + x2).toNatClampNeg) < (100000 : Int32) then
      F_Mo_findWay_b31 ss_F x2 x1 s2
    else
    some ((0 : Int32), s2)
  else none
theorem V_Mo_findWay (E : sv_E) (d : Nat) (x1 : Int32) (x2 : Int32) (s : sv_S) : sv_V E m_Mo_findWay (d + 1) ss_i 0 (lv_args 0 [sv_r E 187, .int x1, .int x2]) [] (ss_e s) (F_Mo_findWay x1 x2 s) := by
  show sv_V E m_Mo_findWay (d + 1) ss_i 0 [(0, sv_r E 187), (1, .int x1), (2, .int x2)] [] (ss_e s) _
  unfold F_Mo_findWay
  refine sv_aload_n (pc := 0) 0 (sv_d k_Mo_findWay 0 rfl) rfl rfl ?_
  refine sv_iconst (pc := 1) (v := (-1 : Int32)) (sv_d k_Mo_findWay 1 rfl) (by decide) ?_
  refine sv_callV (pc := 2) (ψ := ss_v) (As := [.int (-1 : Int32)]) (rest := []) (c := 187) (sv_d k_Mo_findWay 2 rfl) g_Mo_findFar w1569 in_Mo_findFar se_Mo_findFar cf12 kd187 (ss_lt (by decide)) rfl (Nat.le_of_ble_eq_true rfl) (V_Mo_findFar E (d + 0) (-1 : Int32) s) (Nat.le_of_ble_eq_true rfl) rfl (fun r1 => ?_)
  show sv_V E _ _ _ 5 _ [] (ss_e r1) _
  refine sv_aload_n (pc := 5) 0 (sv_d k_Mo_findWay 3 rfl) rfl rfl ?_
  refine sv_iconst (pc := 6) (v := (0 : Int32)) (sv_d k_Mo_findWay 4 rfl) (by decide) ?_
  refine ss_putI (pc := 7) 9 (sv_d k_Mo_findWay 5 rfl) cf12 (by decide) rfl w1311 kd187 (ss_lt (by decide)) rfl rfl (fun _ => rfl) (ss_lets (fun s2 e_s2 => ?_))
  refine sv_aload_n (pc := 10) 0 (sv_d k_Mo_findWay 6 rfl) rfl rfl ?_
  refine sv_getf (pc := 11) 6 (sv_d k_Mo_findWay 7 rfl) cf12 (by decide) w1308 kd187 (ss_lt (by decide)) (lr_187_6 E _) ?_
  refine sv_bipush (pc := 14) (v := (16 : Int32)) (sv_d k_Mo_findWay 8 rfl) (by decide) ?_
  refine sv_iload_n (pc := 16) 1 (sv_d k_Mo_findWay 9 rfl) rfl rfl ?_
  refine sv_imul (pc := 17) (sv_d k_Mo_findWay 10 rfl) ?_
  refine sv_iload_n (pc := 18) 2 (sv_d k_Mo_findWay 11 rfl) rfl rfl ?_
  refine sv_iadd (pc := 19) (sv_d k_Mo_findWay 12 rfl) ?_
  refine ss_iald (pc := 20) (n := 256) (sv_d k_Mo_findWay 13 rfl) kd192 (ss_lt (by decide)) rfl ?_
  refine sv_ldcw (pc := 21) (v := (100000 : Int32)) w1573 (sv_d k_Mo_findWay 14 rfl) ?_
  refine sv_icmp_lt (pc := 24) (tgt := 29) (sv_d k_Mo_findWay 15 rfl) (by decide) ?_ ?_
  · refine sv_iload_n (pc := 29) 1 (sv_d k_Mo_findWay 18 rfl) rfl rfl ?_
    refine sv_istore_n (pc := 30) (lv' := [(3, .int x1), (0, sv_r E 187), (1, .int x1), (2, .int x2)]) (sv_d k_Mo_findWay 19 rfl) rfl (by decide) rfl ?_
    exact sv_loc [1, 3, 0] rfl (V_Mo_findWay_b31 E d ss_F x2 x1 s2)
  · refine sv_iconst (pc := 27) (v := (0 : Int32)) (sv_d k_Mo_findWay 16 rfl) (by decide) ?_
    exact sv_ret (pc := 28) (sv_d k_Mo_findWay 17 rfl) ⟨_, rfl, rfl⟩ rfl
/-! Mo_way -/
abbrev m_Mo_way : sv_M := (yX12_way, cX12_way, 4, (some .int))
def t_Mo_way : List (Nat × Instr × Nat) := [(0, .aload_n 0, 1), (1, .iload_n 1, 1), (2, .invokevirtual 259, 3), (5, .ifCond .eq 44, 3), (8, .aload_n 0, 1), (9, .iload_n 2, 1), (10, .invokevirtual 259, 3), (13, .ifCond .eq 36, 3), (16, .aload_n 0, 1), (17, .iload_n 1, 1), (18, .iload_n 2, 1), (19, .invokevirtual 275, 3), (22, .ifCond .eq 27, 3), (25, .aload_n 0, 1), (26, .iload_n 3, 1), (27, .iconst 0, 1), (28, .aload_n 0, 1), (29, .getfield 38, 3), (32, .iconst 1, 1), (33, .isub, 1), (34, .invokevirtual 251, 3), (37, .ifCond .eq 12, 3), (40, .aload_n 0, 1), (41, .getfield 35, 3), (44, .iload_n 3, 1), (45, .iaload, 1), (46, .goto 4, 3), (49, .iconst (-1), 1), (50, .ireturn, 1)]
theorem k_Mo_way : sv_tk m_Mo_way.2.1 t_Mo_way := by decide +kernel
theorem g_Mo_way : sv_G m_Mo_way 3 := ⟨by decide +kernel, sv_in 1577 (by decide +kernel) rfl, sv_in 103 (by decide +kernel) rfl, ⟨by decide, by decide⟩, by decide +kernel, by decide⟩
theorem in_Mo_way : Cond.instanceMethod m_Mo_way.1 ∈ sv_T := sv_in 1575 (by decide +kernel) rfl
theorem se_Mo_way : Cond.selects m_Mo_way.1.cls m_Mo_way.1 m_Mo_way.1 ∈ sv_T := sv_in 1576 (by decide +kernel) rfl
def F_Mo_way (x1 : Int32) (x2 : Int32) (x3 : Int32) (s : sv_S) : Option (Int32 × sv_S) :=
  (F_Mo_isStation x1 s).bind fun r1 =>
  if r1 = 0 then
    some ((-1 : Int32), s)
  else
  (F_Mo_isStation x2 s).bind fun r2 =>
  if r2 = 0 then
    some ((-1 : Int32), s)
  else
  (F_Mo_findWay x1 x2 s).bind fun r3 =>
  if r3.1 = 0 then
    some ((-1 : Int32), r3.2)
  else
  (F_Mo_in x3 (0 : Int32) ((r3.2.1 187 9) - (1 : Int32)) r3.2).bind fun r4 =>
  if r4 = 0 then
    some ((-1 : Int32), r3.2)
  else
  if sv_ib x3 16 = true then
    some (r3.2.1 194 x3.toNatClampNeg, r3.2)
  else none
theorem V_Mo_way (E : sv_E) (d : Nat) (x1 : Int32) (x2 : Int32) (x3 : Int32) (s : sv_S) : sv_V E m_Mo_way (d + 2) ss_i 0 (lv_args 0 [sv_r E 187, .int x1, .int x2, .int x3]) [] (ss_e s) (F_Mo_way x1 x2 x3 s) := by
  show sv_V E m_Mo_way (d + 2) ss_i 0 [(0, sv_r E 187), (1, .int x1), (2, .int x2), (3, .int x3)] [] (ss_e s) _
  unfold F_Mo_way
  refine sv_aload_n (pc := 0) 0 (sv_d k_Mo_way 0 rfl) rfl rfl ?_
  refine sv_iload_n (pc := 1) 1 (sv_d k_Mo_way 1 rfl) rfl rfl ?_
  refine sv_callV (pc := 2) (ψ := (ss_pi s)) (As := [.int x1]) (rest := []) (c := 187) (sv_d k_Mo_way 2 rfl) g_Mo_isStation w1557 in_Mo_isStation se_Mo_isStation cf12 kd187 (ss_lt (by decide)) rfl (Nat.le_of_ble_eq_true rfl) (V_Mo_isStation E (d + 0) x1 s) (Nat.le_of_ble_eq_true rfl) rfl (fun r1 => ?_)
  show sv_V E _ _ _ 5 _ [.int r1] (ss_e s) _
  refine sv_if_eq (pc := 5) (tgt := 49) (sv_d k_Mo_way 3 rfl) (by decide) ?_ ?_
  · refine sv_iconst (pc := 49) (v := (-1 : Int32)) (sv_d k_Mo_way 27 rfl) (by decide) ?_
    exact sv_ret (pc := 50) (sv_d k_Mo_way 28 rfl) ⟨_, rfl, rfl⟩ rfl
  · refine sv_aload_n (pc := 8) 0 (sv_d k_Mo_way 4 rfl) rfl rfl ?_
    refine sv_iload_n (pc := 9) 2 (sv_d k_Mo_way 5 rfl) rfl rfl ?_
    refine sv_callV (pc := 10) (ψ := (ss_pi s)) (As := [.int x2]) (rest := []) (c := 187) (sv_d k_Mo_way 6 rfl) g_Mo_isStation w1557 in_Mo_isStation se_Mo_isStation cf12 kd187 (ss_lt (by decide)) rfl (Nat.le_of_ble_eq_true rfl) (V_Mo_isStation E (d + 0) x2 s) (Nat.le_of_ble_eq_true rfl) rfl (fun r2 => ?_)
    show sv_V E _ _ _ 13 _ [.int r2] (ss_e s) _
    refine sv_if_eq (pc := 13) (tgt := 49) (sv_d k_Mo_way 7 rfl) (by decide) ?_ ?_
    · refine sv_iconst (pc := 49) (v := (-1 : Int32)) (sv_d k_Mo_way 27 rfl) (by decide) ?_
      exact sv_ret (pc := 50) (sv_d k_Mo_way 28 rfl) ⟨_, rfl, rfl⟩ rfl
    · refine sv_aload_n (pc := 16) 0 (sv_d k_Mo_way 8 rfl) rfl rfl ?_
      refine sv_iload_n (pc := 17) 1 (sv_d k_Mo_way 9 rfl) rfl rfl ?_
      refine sv_iload_n (pc := 18) 2 (sv_d k_Mo_way 10 rfl) rfl rfl ?_
      refine sv_callV (pc := 19) (ψ := ss_i) (As := [.int x1, .int x2]) (rest := []) (c := 187) (sv_d k_Mo_way 11 rfl) g_Mo_findWay w1578 in_Mo_findWay se_Mo_findWay cf12 kd187 (ss_lt (by decide)) rfl (Nat.le_of_ble_eq_true rfl) (V_Mo_findWay E (d + 0) x1 x2 s) (Nat.le_of_ble_eq_true rfl) rfl (fun r3 => ?_)
      show sv_V E _ _ _ 22 _ [.int r3.1] (ss_e r3.2) _
      refine sv_if_eq (pc := 22) (tgt := 49) (sv_d k_Mo_way 12 rfl) (by decide) ?_ ?_
      · refine sv_iconst (pc := 49) (v := (-1 : Int32)) (sv_d k_Mo_way 27 rfl) (by decide) ?_
        exact sv_ret (pc := 50) (sv_d k_Mo_way 28 rfl) ⟨_, rfl, rfl⟩ rfl
      · refine sv_aload_n (pc := 25) 0 (sv_d k_Mo_way 13 rfl) rfl rfl ?_
        refine sv_iload_n (pc := 26) 3 (sv_d k_Mo_way 14 rfl) rfl rfl ?_
        refine sv_iconst (pc := 27) (v := (0 : Int32)) (sv_d k_Mo_way 15 rfl) (by decide) ?_
        refine sv_aload_n (pc := 28) 0 (sv_d k_Mo_way 16 rfl) rfl rfl ?_
        refine sv_getf (pc := 29) 9 (sv_d k_Mo_way 17 rfl) cf12 (by decide) w1311 kd187 (ss_lt (by decide)) rfl ?_
        refine sv_iconst (pc := 32) (v := (1 : Int32)) (sv_d k_Mo_way 18 rfl) (by decide) ?_
        refine sv_isub (pc := 33) (sv_d k_Mo_way 19 rfl) ?_
        refine sv_callV (pc := 34) (ψ := (ss_pi r3.2)) (As := [.int x3, .int (0 : Int32), .int ((r3.2.1 187 9) - (1 : Int32))]) (rest := []) (c := 187) (sv_d k_Mo_way 20 rfl) g_Mo_in w1545 in_Mo_in se_Mo_in cf12 kd187 (ss_lt (by decide)) rfl (Nat.le_of_ble_eq_true rfl) (V_Mo_in E (d + 1) x3 (0 : Int32) ((r3.2.1 187 9) - (1 : Int32)) r3.2) (Nat.le_of_ble_eq_true rfl) rfl (fun r4 => ?_)
        show sv_V E _ _ _ 37 _ [.int r4] (ss_e r3.2) _
        refine sv_if_eq (pc := 37) (tgt := 49) (sv_d k_Mo_way 21 rfl) (by decide) ?_ ?_
        · refine sv_iconst (pc := 49) (v := (-1 : Int32)) (sv_d k_Mo_way 27 rfl) (by decide) ?_
          exact sv_ret (pc := 50) (sv_d k_Mo_way 28 rfl) ⟨_, rfl, rfl⟩ rfl
        · refine sv_aload_n (pc := 40) 0 (sv_d k_Mo_way 22 rfl) rfl rfl ?_
          refine sv_getf (pc := 41) 8 (sv_d k_Mo_way 23 rfl) cf12 (by decide) w1310 kd187 (ss_lt (by decide)) (lr_187_8 E _) ?_
          refine sv_iload_n (pc := 44) 3 (sv_d k_Mo_way 24 rfl) rfl rfl ?_
          refine ss_iald (pc := 45) (n := 16) (sv_d k_Mo_way 25 rfl) kd194 (ss_lt (by decide)) rfl ?_
          refine sv_goto (pc := 46) (tgt := 50) (sv_d k_Mo_way 26 rfl) (by decide) ?_
          exact sv_ret (pc := 50) (sv_d k_Mo_way 28 rfl) ⟨_, rfl, rfl⟩ rfl
/-! Mo_feed -/
abbrev m_Mo_feed : sv_M := (yX12_feed, cX12_feed, 4, (some .int))
def t_Mo_feed : List (Nat × Instr × Nat) := [(0, .aload_n 0, 1), (1, .iload_n 2, 1), (2, .iconst 0, 1), (3, .iconst 4, 1), (4, .invokevirtual 251, 3), (7, .ifCond .ne 6, 3), (10, .bipush (-2), 2), (12, .ireturn, 1), (13, .aload_n 0, 1), (14, .getfield 44, 3), (17, .iload_n 2, 1), (18, .iadd, 1), (19, .sipush 140, 3), (22, .if_icmp .le 6, 3), (25, .bipush (-4), 2), (27, .ireturn, 1), (28, .iload_n 2, 1), (29, .iconst 1, 1), (30, .isub, 1), (31, .istore_n 3, 1), (32, .iload_n 3, 1), (33, .ifCond .lt 39, 3), (36, .aload_n 0, 1), (37, .getfield 53, 3), (40, .sipush 2240, 3), (43, .aload_n 0, 1), (44, .getfield 44, 3), (47, .iadd, 1), (48, .iload_n 1, 1), (49, .bipush 8, 2), (51, .iload_n 3, 1), (52, .imul, 1), (53, .ishr, 1), (54, .i2b, 1), (55, .iastore, 1), (56, .aload_n 0, 1), (57, .dup, 1), (58, .getfield 44, 3), (61, .iconst 1, 1), (62, .iadd, 1), (63, .putfield 44, 3), (66, .iinc 3 (-1), 3), (69, .goto (-37), 3), (72, .aload_n 0, 1), (73, .getfield 44, 3), (76, .ireturn, 1)]
theorem k_Mo_feed : sv_tk m_Mo_feed.2.1 t_Mo_feed := by decide +kernel
theorem g_Mo_feed : sv_G m_Mo_feed 2 := ⟨by decide +kernel, sv_in 1589 (by decide +kernel) rfl, sv_in 103 (by decide +kernel) rfl, ⟨by decide, by decide⟩, by decide +kernel, by decide⟩
theorem in_Mo_feed : Cond.instanceMethod m_Mo_feed.1 ∈ sv_T := sv_in 1587 (by decide +kernel) rfl
theorem se_Mo_feed : Cond.selects m_Mo_feed.1.cls m_Mo_feed.1 m_Mo_feed.1 ∈ sv_T := sv_in 1588 (by decide +kernel) rfl
def F_Mo_feed_b32 : Nat → Int32 → Int32 → sv_S → Option (Int32 × sv_S)
  | 0 => fun _ _ _ => none
  | n + 1 => fun x1 x3 s =>
    if x3 < 0 then
      some (s.1 187 11, s)
    else
    if sv_ib ((2240 : Int32) + (s.1 187 11)) 2380 = true then
      ss_let (ss_setI s 197 ((2240 : Int32) + (s.1 187 11)).toNatClampNeg ((x1 >>> (((8 : Int32) * x3) &&& 31)).toInt8.toInt32)) fun s3 =>
      ss_let (ss_setI s3 187 11 ((s3.1 187 11) + (1 : Int32))) fun s4 =>
      ss_let (x3 + (-1 : Int32)) fun v5 =>
      F_Mo_feed_b32  n x1 v5 s4
    else none
theorem V_Mo_feed_b32 (E : sv_E) (d : Nat) : ∀ (n : Nat) (x1 : Int32) (x3 : Int32) (s : sv_S), sv_V E m_Mo_feed (d + 1) ss_i 32 [(0, sv_r E 187), (1, .int x1), (3, .int x3)] [] (ss_e s) (F_Mo_feed_b32 n x1 x3 s) := by
  intro n
  induction n with
  | zero => intro x1 x3 s; exact sv_none
  | succ n ih =>
    intro x1 x3 s
    unfold F_Mo_feed_b32
    refine sv_iload_n (pc := 32) 2 (sv_d k_Mo_feed 20 rfl) rfl rfl ?_
    refine sv_if_lt (pc := 33) (tgt := 72) (sv_d k_Mo_feed 21 rfl) (by decide) ?_ ?_
    · refine sv_aload_n (pc := 72) 0 (sv_d k_Mo_feed 43 rfl) rfl rfl ?_
      refine sv_getf (pc := 73) 11 (sv_d k_Mo_feed 44 rfl) cf12 (by decide) w1313 kd187 (ss_lt (by decide)) rfl ?_
      exact sv_ret (pc := 76) (sv_d k_Mo_feed 45 rfl) ⟨_, rfl, rfl⟩ rfl
    · refine sv_aload_n (pc := 36) 0 (sv_d k_Mo_feed 22 rfl) rfl rfl ?_
      refine sv_getf (pc := 37) 14 (sv_d k_Mo_feed 23 rfl) cf12 (by decide) w1316 kd187 (ss_lt (by decide)) (lr_187_14 E _) ?_
      refine sv_sipush (pc := 40) (v := (2240 : Int32)) (sv_d k_Mo_feed 24 rfl) (by decide) ?_
      refine sv_aload_n (pc := 43) 0 (sv_d k_Mo_feed 25 rfl) rfl rfl ?_
      refine sv_getf (pc := 44) 11 (sv_d k_Mo_feed 26 rfl) cf12 (by decide) w1313 kd187 (ss_lt (by decide)) rfl ?_
      refine sv_iadd (pc := 47) (sv_d k_Mo_feed 27 rfl) ?_
      refine sv_iload_n (pc := 48) 1 (sv_d k_Mo_feed 28 rfl) rfl rfl ?_
      refine sv_bipush (pc := 49) (v := (8 : Int32)) (sv_d k_Mo_feed 29 rfl) (by decide) ?_
      refine sv_iload_n (pc := 51) 2 (sv_d k_Mo_feed 30 rfl) rfl rfl ?_
      refine sv_imul (pc := 52) (sv_d k_Mo_feed 31 rfl) ?_
      refine sv_ishr (pc := 53) (sv_d k_Mo_feed 32 rfl) ?_
      refine sv_i2b (pc := 54) (sv_d k_Mo_feed 33 rfl) ?_
      refine ss_iast (pc := 55) (n := 2380) (sv_d k_Mo_feed 34 rfl) kd197 (by decide) (ss_lt (by decide)) rfl (ss_lets (fun s3 e_s3 => ?_))
      refine sv_aload_n (pc := 56) 0 (sv_d k_Mo_feed 35 rfl) rfl rfl ?_
      refine sv_dup (pc := 57) (sv_d k_Mo_feed 36 rfl) rfl ?_
      refine sv_getf (pc := 58) 11 (sv_d k_Mo_feed 37 rfl) cf12 (by decide) w1313 kd187 (ss_lt (by decide)) rfl ?_
      refine sv_iconst (pc := 61) (v := (1 : Int32)) (sv_d k_Mo_feed 38 rfl) (by decide) ?_
      refine sv_iadd (pc := 62) (sv_d k_Mo_feed 39 rfl) ?_
      refine ss_putI (pc := 63) 11 (sv_d k_Mo_feed 40 rfl) cf12 (by decide) rfl w1313 kd187 (ss_lt (by decide)) rfl rfl (fun _ => rfl) (ss_lets (fun s4 e_s4 => ?_))
      refine ss_letr (fun v5 e_v5 => ?_)
      refine sv_iinc (pc := 66) (v := v5) (lv' := [(3, .int v5), (0, sv_r E 187), (1, .int x1)]) (sv_d k_Mo_feed 41 rfl) (n := 2) rfl (by rw [e_v5]; rfl) (by decide) rfl ?_
      refine sv_goto (pc := 69) (tgt := 32) (sv_d k_Mo_feed 42 rfl) (by decide) ?_
      exact sv_loc [1, 2, 0] rfl (ih x1 v5 s4)
def F_Mo_feed (x1 : Int32) (x2 : Int32) (s : sv_S) : Option (Int32 × sv_S) :=
  (F_Mo_in x2 (0 : Int32) (4 : Int32) s).bind fun r1 =>
  if r1 = 0 then
    some ((-2 : Int32), s)
  else
  if ((s.1 187 11) + x2) ≤ (140 : Int32) then
    ss_let (x2 - (1 : Int32)) fun v2 =>
    F_Mo_feed_b32 ss_F x1 v2 s
  else
  some ((-4 : Int32), s)
theorem V_Mo_feed (E : sv_E) (d : Nat) (x1 : Int32) (x2 : Int32) (s : sv_S) : sv_V E m_Mo_feed (d + 1) ss_i 0 (lv_args 0 [sv_r E 187, .int x1, .int x2]) [] (ss_e s) (F_Mo_feed x1 x2 s) := by
  show sv_V E m_Mo_feed (d + 1) ss_i 0 [(0, sv_r E 187), (1, .int x1), (2, .int x2)] [] (ss_e s) _
  unfold F_Mo_feed
  refine sv_aload_n (pc := 0) 0 (sv_d k_Mo_feed 0 rfl) rfl rfl ?_
  refine sv_iload_n (pc := 1) 2 (sv_d k_Mo_feed 1 rfl) rfl rfl ?_
  refine sv_iconst (pc := 2) (v := (0 : Int32)) (sv_d k_Mo_feed 2 rfl) (by decide) ?_
  refine sv_iconst (pc := 3) (v := (4 : Int32)) (sv_d k_Mo_feed 3 rfl) (by decide) ?_
  refine sv_callV (pc := 4) (ψ := (ss_pi s)) (As := [.int x2, .int (0 : Int32), .int (4 : Int32)]) (rest := []) (c := 187) (sv_d k_Mo_feed 4 rfl) g_Mo_in w1545 in_Mo_in se_Mo_in cf12 kd187 (ss_lt (by decide)) rfl (Nat.le_of_ble_eq_true rfl) (V_Mo_in E (d + 0) x2 (0 : Int32) (4 : Int32) s) (Nat.le_of_ble_eq_true rfl) rfl (fun r1 => ?_)
  show sv_V E _ _ _ 7 _ [.int r1] (ss_e s) _
  refine sv_if_ne (pc := 7) (tgt := 13) (sv_d k_Mo_feed 5 rfl) (by decide) ?_ ?_
  · refine sv_aload_n (pc := 13) 0 (sv_d k_Mo_feed 8 rfl) rfl rfl ?_
    refine sv_getf (pc := 14) 11 (sv_d k_Mo_feed 9 rfl) cf12 (by decide) w1313 kd187 (ss_lt (by decide)) rfl ?_
    refine sv_iload_n (pc := 17) 2 (sv_d k_Mo_feed 10 rfl) rfl rfl ?_
    refine sv_iadd (pc := 18) (sv_d k_Mo_feed 11 rfl) ?_
    refine sv_sipush (pc := 19) (v := (140 : Int32)) (sv_d k_Mo_feed 12 rfl) (by decide) ?_
    refine sv_icmp_le (pc := 22) (tgt := 28) (sv_d k_Mo_feed 13 rfl) (by decide) ?_ ?_
    · refine sv_iload_n (pc := 28) 2 (sv_d k_Mo_feed 16 rfl) rfl rfl ?_
      refine sv_iconst (pc := 29) (v := (1 : Int32)) (sv_d k_Mo_feed 17 rfl) (by decide) ?_
      refine sv_isub (pc := 30) (sv_d k_Mo_feed 18 rfl) ?_
      refine ss_top (fun v2 e_v2 => ?_)
      refine sv_istore_n (pc := 31) (lv' := [(3, .int v2), (0, sv_r E 187), (1, .int x1), (2, .int x2)]) (sv_d k_Mo_feed 19 rfl) rfl (by decide) rfl ?_
      exact sv_loc [1, 2, 0] rfl (V_Mo_feed_b32 E d ss_F x1 v2 s)
    · refine sv_bipush (pc := 25) (v := (-4 : Int32)) (sv_d k_Mo_feed 14 rfl) (by decide) ?_
      exact sv_ret (pc := 27) (sv_d k_Mo_feed 15 rfl) ⟨_, rfl, rfl⟩ rfl
  · refine sv_bipush (pc := 10) (v := (-2 : Int32)) (sv_d k_Mo_feed 6 rfl) (by decide) ?_
    exact sv_ret (pc := 12) (sv_d k_Mo_feed 7 rfl) ⟨_, rfl, rfl⟩ rfl
