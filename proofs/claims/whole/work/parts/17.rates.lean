/-! Ra_kind -/
abbrev m_Ra_kind : sv_M := (yX5_kind, cX5_kind, 1, (some .int))
def t_Ra_kind : List (Nat × Instr × Nat) := [(0, .aload_n 0, 1), (1, .getfield 9, 3), (4, .ifCond .eq 8, 3), (7, .bipush 6, 2), (9, .goto 7, 3), (12, .aload_n 0, 1), (13, .getfield 15, 3), (16, .ireturn, 1)]
theorem k_Ra_kind : sv_tk m_Ra_kind.2.1 t_Ra_kind := by decide +kernel
theorem g_Ra_kind : sv_G m_Ra_kind 0 := ⟨by decide +kernel, sv_in 866 (by decide +kernel) rfl, sv_in 97 (by decide +kernel) rfl, ⟨by decide, by decide⟩, by decide +kernel, by decide⟩
theorem in_Ra_kind : Cond.instanceMethod m_Ra_kind.1 ∈ sv_T := sv_in 864 (by decide +kernel) rfl
theorem se_Ra_kind : Cond.selects m_Ra_kind.1.cls m_Ra_kind.1 m_Ra_kind.1 ∈ sv_T := sv_in 865 (by decide +kernel) rfl
def F_Ra_kind (a0 : Nat) (s : sv_S) : Option (Int32) :=
  if (s.1 a0 11) = 0 then
    some (s.1 a0 1)
  else
  some (6 : Int32)
theorem V_Ra_kind (E : sv_E) (d : Nat) (a0 : Nat) (s : sv_S) (h_a0 : ss_K a0 = 5) (o_a0 : 64 ≤ a0) (l_a0 : a0 < 243 + s.2.2.2.2.1) : sv_V E m_Ra_kind (d + 0) (ss_pi s) 0 (lv_args 0 [sv_r E a0]) [] (ss_e s) (F_Ra_kind a0 s) := by
  show sv_V E m_Ra_kind (d + 0) (ss_pi s) 0 [(0, sv_r E a0)] [] (ss_e s) _
  unfold F_Ra_kind
  refine sv_aload_n (pc := 0) 0 (sv_d k_Ra_kind 0 rfl) rfl rfl ?_
  refine sv_getf (pc := 1) 11 (sv_d k_Ra_kind 1 rfl) cf5 (by decide) w299 h_a0 l_a0 rfl ?_
  refine sv_if_eq (pc := 4) (tgt := 12) (sv_d k_Ra_kind 2 rfl) (by decide) ?_ ?_
  · refine sv_aload_n (pc := 12) 0 (sv_d k_Ra_kind 5 rfl) rfl rfl ?_
    refine sv_getf (pc := 13) 1 (sv_d k_Ra_kind 6 rfl) cf5 (by decide) w261 h_a0 l_a0 rfl ?_
    exact sv_ret (pc := 16) (sv_d k_Ra_kind 7 rfl) ⟨_, rfl, rfl⟩ rfl
  · refine sv_bipush (pc := 7) (v := (6 : Int32)) (sv_d k_Ra_kind 3 rfl) (by decide) ?_
    refine sv_goto (pc := 9) (tgt := 16) (sv_d k_Ra_kind 4 rfl) (by decide) ?_
    exact sv_ret (pc := 16) (sv_d k_Ra_kind 7 rfl) ⟨_, rfl, rfl⟩ rfl
/-! Ra_isPrinted -/
abbrev m_Ra_isPrinted : sv_M := (yX5_isPrinted, cX5_isPrinted, 2, (some .boolean))
def t_Ra_isPrinted : List (Nat × Instr × Nat) := [(0, .iload_n 1, 1), (1, .aload_n 0, 1), (2, .getfield 19, 3), (5, .if_icmp .lt 22, 3), (8, .aload_n 0, 1), (9, .getfield 22, 3), (12, .ifCond .lt 11, 3), (15, .iload_n 1, 1), (16, .aload_n 0, 1), (17, .getfield 22, 3), (20, .if_icmp .ge 7, 3), (23, .iconst 1, 1), (24, .goto 4, 3), (27, .iconst 0, 1), (28, .ireturn, 1)]
theorem k_Ra_isPrinted : sv_tk m_Ra_isPrinted.2.1 t_Ra_isPrinted := by decide +kernel
theorem g_Ra_isPrinted : sv_G m_Ra_isPrinted 1 := ⟨by decide +kernel, sv_in 891 (by decide +kernel) rfl, sv_in 97 (by decide +kernel) rfl, ⟨by decide, by decide⟩, by decide +kernel, by decide⟩
theorem in_Ra_isPrinted : Cond.instanceMethod m_Ra_isPrinted.1 ∈ sv_T := sv_in 889 (by decide +kernel) rfl
theorem se_Ra_isPrinted : Cond.selects m_Ra_isPrinted.1.cls m_Ra_isPrinted.1 m_Ra_isPrinted.1 ∈ sv_T := sv_in 890 (by decide +kernel) rfl
def F_Ra_isPrinted (a0 : Nat) (x1 : Int32) (s : sv_S) : Option (Int32) :=
  if x1 < (s.1 a0 7) then
    some (0 : Int32)
  else
  if (s.1 a0 8) < 0 then
    some (1 : Int32)
  else
  if (s.1 a0 8) ≤ x1 then
    some (0 : Int32)
  else
  some (1 : Int32)
theorem V_Ra_isPrinted (E : sv_E) (d : Nat) (a0 : Nat) (x1 : Int32) (s : sv_S) (h_a0 : ss_K a0 = 5) (o_a0 : 64 ≤ a0) (l_a0 : a0 < 243 + s.2.2.2.2.1) : sv_V E m_Ra_isPrinted (d + 0) (ss_pi s) 0 (lv_args 0 [sv_r E a0, .int x1]) [] (ss_e s) (F_Ra_isPrinted a0 x1 s) := by
  show sv_V E m_Ra_isPrinted (d + 0) (ss_pi s) 0 [(0, sv_r E a0), (1, .int x1)] [] (ss_e s) _
  unfold F_Ra_isPrinted
  refine sv_iload_n (pc := 0) 1 (sv_d k_Ra_isPrinted 0 rfl) rfl rfl ?_
  refine sv_aload_n (pc := 1) 0 (sv_d k_Ra_isPrinted 1 rfl) rfl rfl ?_
  refine sv_getf (pc := 2) 7 (sv_d k_Ra_isPrinted 2 rfl) cf5 (by decide) w289 h_a0 l_a0 rfl ?_
  refine sv_icmp_lt (pc := 5) (tgt := 27) (sv_d k_Ra_isPrinted 3 rfl) (by decide) ?_ ?_
  · refine sv_iconst (pc := 27) (v := (0 : Int32)) (sv_d k_Ra_isPrinted 13 rfl) (by decide) ?_
    exact sv_ret (pc := 28) (sv_d k_Ra_isPrinted 14 rfl) ⟨_, rfl, rfl⟩ rfl
  · refine sv_aload_n (pc := 8) 0 (sv_d k_Ra_isPrinted 4 rfl) rfl rfl ?_
    refine sv_getf (pc := 9) 8 (sv_d k_Ra_isPrinted 5 rfl) cf5 (by decide) w291 h_a0 l_a0 rfl ?_
    refine sv_if_lt (pc := 12) (tgt := 23) (sv_d k_Ra_isPrinted 6 rfl) (by decide) ?_ ?_
    · refine sv_iconst (pc := 23) (v := (1 : Int32)) (sv_d k_Ra_isPrinted 11 rfl) (by decide) ?_
      refine sv_goto (pc := 24) (tgt := 28) (sv_d k_Ra_isPrinted 12 rfl) (by decide) ?_
      exact sv_ret (pc := 28) (sv_d k_Ra_isPrinted 14 rfl) ⟨_, rfl, rfl⟩ rfl
    · refine sv_iload_n (pc := 15) 1 (sv_d k_Ra_isPrinted 7 rfl) rfl rfl ?_
      refine sv_aload_n (pc := 16) 0 (sv_d k_Ra_isPrinted 8 rfl) rfl rfl ?_
      refine sv_getf (pc := 17) 8 (sv_d k_Ra_isPrinted 9 rfl) cf5 (by decide) w291 h_a0 l_a0 rfl ?_
      refine sv_icmp_ge (pc := 20) (tgt := 27) (sv_d k_Ra_isPrinted 10 rfl) (by decide) ?_ ?_
      · refine sv_iconst (pc := 27) (v := (0 : Int32)) (sv_d k_Ra_isPrinted 13 rfl) (by decide) ?_
        exact sv_ret (pc := 28) (sv_d k_Ra_isPrinted 14 rfl) ⟨_, rfl, rfl⟩ rfl
      · refine sv_iconst (pc := 23) (v := (1 : Int32)) (sv_d k_Ra_isPrinted 11 rfl) (by decide) ?_
        refine sv_goto (pc := 24) (tgt := 28) (sv_d k_Ra_isPrinted 12 rfl) (by decide) ?_
        exact sv_ret (pc := 28) (sv_d k_Ra_isPrinted 14 rfl) ⟨_, rfl, rfl⟩ rfl
/-! Ra_takeOut -/
abbrev m_Ra_takeOut : sv_M := (yX5_takeOut, cX5_takeOut, 2, none)
def t_Ra_takeOut : List (Nat × Instr × Nat) := [(0, .aload_n 0, 1), (1, .iconst 1, 1), (2, .putfield 9, 3), (5, .aload_n 0, 1), (6, .iload_n 1, 1), (7, .putfield 22, 3), (10, .return_, 1)]
theorem k_Ra_takeOut : sv_tk m_Ra_takeOut.2.1 t_Ra_takeOut := by decide +kernel
theorem g_Ra_takeOut : sv_G m_Ra_takeOut 1 := ⟨by decide +kernel, sv_in 849 (by decide +kernel) rfl, sv_in 97 (by decide +kernel) rfl, ⟨by decide, by decide⟩, by decide +kernel, by decide⟩
theorem in_Ra_takeOut : Cond.instanceMethod m_Ra_takeOut.1 ∈ sv_T := sv_in 847 (by decide +kernel) rfl
theorem se_Ra_takeOut : Cond.selects m_Ra_takeOut.1.cls m_Ra_takeOut.1 m_Ra_takeOut.1 ∈ sv_T := sv_in 848 (by decide +kernel) rfl
def F_Ra_takeOut (a0 : Nat) (x1 : Int32) (s : sv_S) : Option (sv_S) :=
  ss_let (ss_setI s a0 11 (1 : Int32)) fun s1 =>
  ss_let (ss_setI s1 a0 8 x1) fun s2 =>
  some s2
theorem V_Ra_takeOut (E : sv_E) (d : Nat) (a0 : Nat) (x1 : Int32) (s : sv_S) (h_a0 : ss_K a0 = 5) (o_a0 : 64 ≤ a0) (l_a0 : a0 < 243 + s.2.2.2.2.1) : sv_V E m_Ra_takeOut (d + 0) ss_v 0 (lv_args 0 [sv_r E a0, .int x1]) [] (ss_e s) (F_Ra_takeOut a0 x1 s) := by
  show sv_V E m_Ra_takeOut (d + 0) ss_v 0 [(0, sv_r E a0), (1, .int x1)] [] (ss_e s) _
  unfold F_Ra_takeOut
  refine sv_aload_n (pc := 0) 0 (sv_d k_Ra_takeOut 0 rfl) rfl rfl ?_
  refine sv_iconst (pc := 1) (v := (1 : Int32)) (sv_d k_Ra_takeOut 1 rfl) (by decide) ?_
  refine ss_putI (pc := 2) 11 (sv_d k_Ra_takeOut 2 rfl) cf5 (by decide) rfl w299 h_a0 l_a0 rfl rfl (fun _ => rfl) (ss_lets (fun s1 e_s1 => ?_))
  have l_a0 : a0 < 243 + s1.2.2.2.2.1 := by rw [e_s1]; exact l_a0
  refine sv_aload_n (pc := 5) 0 (sv_d k_Ra_takeOut 3 rfl) rfl rfl ?_
  refine sv_iload_n (pc := 6) 1 (sv_d k_Ra_takeOut 4 rfl) rfl rfl ?_
  refine ss_putI (pc := 7) 8 (sv_d k_Ra_takeOut 5 rfl) cf5 (by decide) rfl w291 h_a0 l_a0 rfl rfl (fun _ => rfl) (ss_lets (fun s2 e_s2 => ?_))
  have l_a0 : a0 < 243 + s2.2.2.2.2.1 := by rw [e_s2]; exact l_a0
  exact sv_retv (pc := 10) (sv_d k_Ra_takeOut 6 rfl) rfl rfl
/-! Ra_putBack -/
abbrev m_Ra_putBack : sv_M := (yX5_putBack, cX5_putBack, 1, none)
def t_Ra_putBack : List (Nat × Instr × Nat) := [(0, .aload_n 0, 1), (1, .iconst 0, 1), (2, .putfield 9, 3), (5, .aload_n 0, 1), (6, .iconst (-1), 1), (7, .putfield 22, 3), (10, .return_, 1)]
theorem k_Ra_putBack : sv_tk m_Ra_putBack.2.1 t_Ra_putBack := by decide +kernel
theorem g_Ra_putBack : sv_G m_Ra_putBack 0 := ⟨by decide +kernel, sv_in 870 (by decide +kernel) rfl, sv_in 97 (by decide +kernel) rfl, ⟨by decide, by decide⟩, by decide +kernel, by decide⟩
theorem in_Ra_putBack : Cond.instanceMethod m_Ra_putBack.1 ∈ sv_T := sv_in 868 (by decide +kernel) rfl
theorem se_Ra_putBack : Cond.selects m_Ra_putBack.1.cls m_Ra_putBack.1 m_Ra_putBack.1 ∈ sv_T := sv_in 869 (by decide +kernel) rfl
def F_Ra_putBack (a0 : Nat) (s : sv_S) : Option (sv_S) :=
  ss_let (ss_setI s a0 11 (0 : Int32)) fun s1 =>
  ss_let (ss_setI s1 a0 8 (-1 : Int32)) fun s2 =>
  some s2
theorem V_Ra_putBack (E : sv_E) (d : Nat) (a0 : Nat) (s : sv_S) (h_a0 : ss_K a0 = 5) (o_a0 : 64 ≤ a0) (l_a0 : a0 < 243 + s.2.2.2.2.1) : sv_V E m_Ra_putBack (d + 0) ss_v 0 (lv_args 0 [sv_r E a0]) [] (ss_e s) (F_Ra_putBack a0 s) := by
  show sv_V E m_Ra_putBack (d + 0) ss_v 0 [(0, sv_r E a0)] [] (ss_e s) _
  unfold F_Ra_putBack
  refine sv_aload_n (pc := 0) 0 (sv_d k_Ra_putBack 0 rfl) rfl rfl ?_
  refine sv_iconst (pc := 1) (v := (0 : Int32)) (sv_d k_Ra_putBack 1 rfl) (by decide) ?_
  refine ss_putI (pc := 2) 11 (sv_d k_Ra_putBack 2 rfl) cf5 (by decide) rfl w299 h_a0 l_a0 rfl rfl (fun _ => rfl) (ss_lets (fun s1 e_s1 => ?_))
  have l_a0 : a0 < 243 + s1.2.2.2.2.1 := by rw [e_s1]; exact l_a0
  refine sv_aload_n (pc := 5) 0 (sv_d k_Ra_putBack 3 rfl) rfl rfl ?_
  refine sv_iconst (pc := 6) (v := (-1 : Int32)) (sv_d k_Ra_putBack 4 rfl) (by decide) ?_
  refine ss_putI (pc := 7) 8 (sv_d k_Ra_putBack 5 rfl) cf5 (by decide) rfl w291 h_a0 l_a0 rfl rfl (fun _ => rfl) (ss_lets (fun s2 e_s2 => ?_))
  have l_a0 : a0 < 243 + s2.2.2.2.2.1 := by rw [e_s2]; exact l_a0
  exact sv_retv (pc := 10) (sv_d k_Ra_putBack 6 rfl) rfl rfl
/-! Ra_fact -/
abbrev m_Ra_fact : sv_M := (yX5_fact, cX5_fact, 2, (some .int))
def t_Ra_fact : List (Nat × Instr × Nat) := [(0, .iload_n 1, 1), (1, .tableswitch (114) (0) (10) #[59, 64, 69, 74, 79, 84, 89, 94, 99, 104, 109], 59), (60, .aload_n 0, 1), (61, .invokevirtual 25, 3), (64, .ireturn, 1), (65, .aload_n 0, 1), (66, .getfield 15, 3), (69, .ireturn, 1), (70, .aload_n 0, 1), (71, .getfield 29, 3), (74, .ireturn, 1), (75, .aload_n 0, 1), (76, .getfield 32, 3), (79, .ireturn, 1), (80, .aload_n 0, 1), (81, .getfield 35, 3), (84, .ireturn, 1), (85, .aload_n 0, 1), (86, .getfield 38, 3), (89, .ireturn, 1), (90, .aload_n 0, 1), (91, .getfield 41, 3), (94, .ireturn, 1), (95, .aload_n 0, 1), (96, .getfield 19, 3), (99, .ireturn, 1), (100, .aload_n 0, 1), (101, .getfield 22, 3), (104, .ireturn, 1), (105, .aload_n 0, 1), (106, .getfield 44, 3), (109, .ireturn, 1), (110, .aload_n 0, 1), (111, .getfield 47, 3), (114, .ireturn, 1), (115, .bipush (-5), 2), (117, .ireturn, 1)]
theorem k_Ra_fact : sv_tk m_Ra_fact.2.1 t_Ra_fact := by decide +kernel
theorem g_Ra_fact : sv_G m_Ra_fact 1 := ⟨by decide +kernel, sv_in 878 (by decide +kernel) rfl, sv_in 97 (by decide +kernel) rfl, ⟨by decide, by decide⟩, by decide +kernel, by decide⟩
theorem in_Ra_fact : Cond.instanceMethod m_Ra_fact.1 ∈ sv_T := sv_in 876 (by decide +kernel) rfl
theorem se_Ra_fact : Cond.selects m_Ra_fact.1.cls m_Ra_fact.1 m_Ra_fact.1 ∈ sv_T := sv_in 877 (by decide +kernel) rfl
def F_Ra_fact (a0 : Nat) (x1 : Int32) (s : sv_S) : Option (Int32) :=
  if x1 = (0 : Int32) then
    (F_Ra_kind a0 s).bind fun r1 =>
    some r1
  else if x1 = (1 : Int32) then
    some (s.1 a0 1)
  else if x1 = (2 : Int32) then
    some (s.1 a0 2)
  else if x1 = (3 : Int32) then
    some (s.1 a0 3)
  else if x1 = (4 : Int32) then
    some (s.1 a0 4)
  else if x1 = (5 : Int32) then
    some (s.1 a0 5)
  else if x1 = (6 : Int32) then
    some (s.1 a0 6)
  else if x1 = (7 : Int32) then
    some (s.1 a0 7)
  else if x1 = (8 : Int32) then
    some (s.1 a0 8)
  else if x1 = (9 : Int32) then
    some (s.1 a0 9)
  else if x1 = (10 : Int32) then
    some (s.1 a0 10)
  else 
  some (-5 : Int32)
theorem V_Ra_fact (E : sv_E) (d : Nat) (a0 : Nat) (x1 : Int32) (s : sv_S) (h_a0 : ss_K a0 = 5) (o_a0 : 64 ≤ a0) (l_a0 : a0 < 243 + s.2.2.2.2.1) : sv_V E m_Ra_fact (d + 1) (ss_pi s) 0 (lv_args 0 [sv_r E a0, .int x1]) [] (ss_e s) (F_Ra_fact a0 x1 s) := by
  show sv_V E m_Ra_fact (d + 1) (ss_pi s) 0 [(0, sv_r E a0), (1, .int x1)] [] (ss_e s) _
  unfold F_Ra_fact
  refine sv_iload_n (pc := 0) 1 (sv_d k_Ra_fact 0 rfl) rfl rfl ?_
  refine ss_dec (fun hh2 => ?_) (fun hh2 => ?_)
  · refine sv_tab (pc := 1) (tgt := 60) (sv_d k_Ra_fact 1 rfl) (0 : Int32) hh2 (by decide) (by decide) rfl (by decide) ?_
    refine sv_aload_n (pc := 60) 0 (sv_d k_Ra_fact 2 rfl) rfl rfl ?_
    refine sv_callV (pc := 61) (ψ := (ss_pi s)) (As := []) (rest := []) (c := a0) (sv_d k_Ra_fact 3 rfl) g_Ra_kind w879 in_Ra_kind se_Ra_kind cf5 h_a0 l_a0 rfl (Nat.le_of_ble_eq_true rfl) (V_Ra_kind E (d + 0) a0 s h_a0 o_a0 l_a0) (Nat.le_of_ble_eq_true rfl) rfl (fun r1 => ?_)
    show sv_V E _ _ _ 64 _ [.int r1] (ss_e s) _
    exact sv_ret (pc := 64) (sv_d k_Ra_fact 4 rfl) ⟨_, rfl, rfl⟩ rfl
  · refine ss_dec (fun hh3 => ?_) (fun hh3 => ?_)
    · refine sv_tab (pc := 1) (tgt := 65) (sv_d k_Ra_fact 1 rfl) (1 : Int32) hh3 (by decide) (by decide) rfl (by decide) ?_
      refine sv_aload_n (pc := 65) 0 (sv_d k_Ra_fact 5 rfl) rfl rfl ?_
      refine sv_getf (pc := 66) 1 (sv_d k_Ra_fact 6 rfl) cf5 (by decide) w261 h_a0 l_a0 rfl ?_
      exact sv_ret (pc := 69) (sv_d k_Ra_fact 7 rfl) ⟨_, rfl, rfl⟩ rfl
    · refine ss_dec (fun hh4 => ?_) (fun hh4 => ?_)
      · refine sv_tab (pc := 1) (tgt := 70) (sv_d k_Ra_fact 1 rfl) (2 : Int32) hh4 (by decide) (by decide) rfl (by decide) ?_
        refine sv_aload_n (pc := 70) 0 (sv_d k_Ra_fact 8 rfl) rfl rfl ?_
        refine sv_getf (pc := 71) 2 (sv_d k_Ra_fact 9 rfl) cf5 (by decide) w267 h_a0 l_a0 rfl ?_
        exact sv_ret (pc := 74) (sv_d k_Ra_fact 10 rfl) ⟨_, rfl, rfl⟩ rfl
      · refine ss_dec (fun hh5 => ?_) (fun hh5 => ?_)
        · refine sv_tab (pc := 1) (tgt := 75) (sv_d k_Ra_fact 1 rfl) (3 : Int32) hh5 (by decide) (by decide) rfl (by decide) ?_
          refine sv_aload_n (pc := 75) 0 (sv_d k_Ra_fact 11 rfl) rfl rfl ?_
          refine sv_getf (pc := 76) 3 (sv_d k_Ra_fact 12 rfl) cf5 (by decide) w273 h_a0 l_a0 rfl ?_
          exact sv_ret (pc := 79) (sv_d k_Ra_fact 13 rfl) ⟨_, rfl, rfl⟩ rfl
        · refine ss_dec (fun hh6 => ?_) (fun hh6 => ?_)
          · refine sv_tab (pc := 1) (tgt := 80) (sv_d k_Ra_fact 1 rfl) (4 : Int32) hh6 (by decide) (by decide) rfl (by decide) ?_
            refine sv_aload_n (pc := 80) 0 (sv_d k_Ra_fact 14 rfl) rfl rfl ?_
            refine sv_getf (pc := 81) 4 (sv_d k_Ra_fact 15 rfl) cf5 (by decide) w278 h_a0 l_a0 rfl ?_
            exact sv_ret (pc := 84) (sv_d k_Ra_fact 16 rfl) ⟨_, rfl, rfl⟩ rfl
          · refine ss_dec (fun hh7 => ?_) (fun hh7 => ?_)
            · refine sv_tab (pc := 1) (tgt := 85) (sv_d k_Ra_fact 1 rfl) (5 : Int32) hh7 (by decide) (by decide) rfl (by decide) ?_
              refine sv_aload_n (pc := 85) 0 (sv_d k_Ra_fact 17 rfl) rfl rfl ?_
              refine sv_getf (pc := 86) 5 (sv_d k_Ra_fact 18 rfl) cf5 (by decide) w285 h_a0 l_a0 rfl ?_
              exact sv_ret (pc := 89) (sv_d k_Ra_fact 19 rfl) ⟨_, rfl, rfl⟩ rfl
            · refine ss_dec (fun hh8 => ?_) (fun hh8 => ?_)
              · refine sv_tab (pc := 1) (tgt := 90) (sv_d k_Ra_fact 1 rfl) (6 : Int32) hh8 (by decide) (by decide) rfl (by decide) ?_
                refine sv_aload_n (pc := 90) 0 (sv_d k_Ra_fact 20 rfl) rfl rfl ?_
                refine sv_getf (pc := 91) 6 (sv_d k_Ra_fact 21 rfl) cf5 (by decide) w288 h_a0 l_a0 rfl ?_
                exact sv_ret (pc := 94) (sv_d k_Ra_fact 22 rfl) ⟨_, rfl, rfl⟩ rfl
              · refine ss_dec (fun hh9 => ?_) (fun hh9 => ?_)
                · refine sv_tab (pc := 1) (tgt := 95) (sv_d k_Ra_fact 1 rfl) (7 : Int32) hh9 (by decide) (by decide) rfl (by decide) ?_
                  refine sv_aload_n (pc := 95) 0 (sv_d k_Ra_fact 23 rfl) rfl rfl ?_
                  refine sv_getf (pc := 96) 7 (sv_d k_Ra_fact 24 rfl) cf5 (by decide) w289 h_a0 l_a0 rfl ?_
                  exact sv_ret (pc := 99) (sv_d k_Ra_fact 25 rfl) ⟨_, rfl, rfl⟩ rfl
                · refine ss_dec (fun hh10 => ?_) (fun hh10 => ?_)
                  · refine sv_tab (pc := 1) (tgt := 100) (sv_d k_Ra_fact 1 rfl) (8 : Int32) hh10 (by decide) (by decide) rfl (by decide) ?_
                    refine sv_aload_n (pc := 100) 0 (sv_d k_Ra_fact 26 rfl) rfl rfl ?_
                    refine sv_getf (pc := 101) 8 (sv_d k_Ra_fact 27 rfl) cf5 (by decide) w291 h_a0 l_a0 rfl ?_
                    exact sv_ret (pc := 104) (sv_d k_Ra_fact 28 rfl) ⟨_, rfl, rfl⟩ rfl
                  · refine ss_dec (fun hh11 => ?_) (fun hh11 => ?_)
                    · refine sv_tab (pc := 1) (tgt := 105) (sv_d k_Ra_fact 1 rfl) (9 : Int32) hh11 (by decide) (by decide) rfl (by decide) ?_
                      refine sv_aload_n (pc := 105) 0 (sv_d k_Ra_fact 29 rfl) rfl rfl ?_
                      refine sv_getf (pc := 106) 9 (sv_d k_Ra_fact 30 rfl) cf5 (by decide) w294 h_a0 l_a0 rfl ?_
                      exact sv_ret (pc := 109) (sv_d k_Ra_fact 31 rfl) ⟨_, rfl, rfl⟩ rfl
                    · refine ss_dec (fun hh12 => ?_) (fun hh12 => ?_)
                      · refine sv_tab (pc := 1) (tgt := 110) (sv_d k_Ra_fact 1 rfl) (10 : Int32) hh12 (by decide) (by decide) rfl (by decide) ?_
                        refine sv_aload_n (pc := 110) 0 (sv_d k_Ra_fact 32 rfl) rfl rfl ?_
                        refine sv_getf (pc := 111) 10 (sv_d k_Ra_fact 33 rfl) cf5 (by decide) w297 h_a0 l_a0 rfl ?_
                        exact sv_ret (pc := 114) (sv_d k_Ra_fact 34 rfl) ⟨_, rfl, rfl⟩ rfl
                      · refine sv_tabD (pc := 1) (tgt := 115) (sv_d k_Ra_fact 1 rfl) (by rcases Int.lt_or_le (Int32.toInt x1) (0) with q | q; exact Or.inl q; have q := (sv_nlt (sv_nlt (sv_nlt (sv_nlt (sv_nlt (sv_nlt (sv_nlt (sv_nlt (sv_nlt (sv_nlt (sv_nlt q (lv_neT hh2 rfl)) (lv_neT hh3 rfl)) (lv_neT hh4 rfl)) (lv_neT hh5 rfl)) (lv_neT hh6 rfl)) (lv_neT hh7 rfl)) (lv_neT hh8 rfl)) (lv_neT hh9 rfl)) (lv_neT hh10 rfl)) (lv_neT hh11 rfl)) (lv_neT hh12 rfl)); exact Or.inr (by omega)) (by decide) ?_
                        refine sv_bipush (pc := 115) (v := (-5 : Int32)) (sv_d k_Ra_fact 35 rfl) (by decide) ?_
                        exact sv_ret (pc := 117) (sv_d k_Ra_fact 36 rfl) ⟨_, rfl, rfl⟩ rfl
/-! Ls_areFull -/
abbrev m_Ls_areFull : sv_M := (yX4_areFull, cX4_areFull, 1, (some .boolean))
def t_Ls_areFull : List (Nat × Instr × Nat) := [(0, .aload_n 0, 1), (1, .getfield 37, 3), (4, .bipush 16, 2), (6, .if_icmp .lt 7, 3), (9, .iconst 1, 1), (10, .goto 4, 3), (13, .iconst 0, 1), (14, .ireturn, 1)]
theorem k_Ls_areFull : sv_tk m_Ls_areFull.2.1 t_Ls_areFull := by decide +kernel
theorem g_Ls_areFull : sv_G m_Ls_areFull 0 := ⟨by decide +kernel, sv_in 627 (by decide +kernel) rfl, sv_in 94 (by decide +kernel) rfl, ⟨by decide, by decide⟩, by decide +kernel, by decide⟩
theorem in_Ls_areFull : Cond.instanceMethod m_Ls_areFull.1 ∈ sv_T := sv_in 625 (by decide +kernel) rfl
theorem se_Ls_areFull : Cond.selects m_Ls_areFull.1.cls m_Ls_areFull.1 m_Ls_areFull.1 ∈ sv_T := sv_in 626 (by decide +kernel) rfl
def F_Ls_areFull (s : sv_S) : Option (Int32) :=
  if (s.1 81 4) < (16 : Int32) then
    some (0 : Int32)
  else
  some (1 : Int32)
theorem V_Ls_areFull (E : sv_E) (d : Nat) (s : sv_S) : sv_V E m_Ls_areFull (d + 0) (ss_pi s) 0 (lv_args 0 [sv_r E 81]) [] (ss_e s) (F_Ls_areFull s) := by
  show sv_V E m_Ls_areFull (d + 0) (ss_pi s) 0 [(0, sv_r E 81)] [] (ss_e s) _
  unfold F_Ls_areFull
  refine sv_aload_n (pc := 0) 0 (sv_d k_Ls_areFull 0 rfl) rfl rfl ?_
  refine sv_getf (pc := 1) 4 (sv_d k_Ls_areFull 1 rfl) cf4 (by decide) w233 kd81 (ss_lt (by decide)) rfl ?_
  refine sv_bipush (pc := 4) (v := (16 : Int32)) (sv_d k_Ls_areFull 2 rfl) (by decide) ?_
  refine sv_icmp_lt (pc := 6) (tgt := 13) (sv_d k_Ls_areFull 3 rfl) (by decide) ?_ ?_
  · refine sv_iconst (pc := 13) (v := (0 : Int32)) (sv_d k_Ls_areFull 6 rfl) (by decide) ?_
    exact sv_ret (pc := 14) (sv_d k_Ls_areFull 7 rfl) ⟨_, rfl, rfl⟩ rfl
  · refine sv_iconst (pc := 9) (v := (1 : Int32)) (sv_d k_Ls_areFull 4 rfl) (by decide) ?_
    refine sv_goto (pc := 10) (tgt := 14) (sv_d k_Ls_areFull 5 rfl) (by decide) ?_
    exact sv_ret (pc := 14) (sv_d k_Ls_areFull 7 rfl) ⟨_, rfl, rfl⟩ rfl
/-! Ls_usual -/
abbrev m_Ls_usual : sv_M := (yX4_usual, cX4_usual, 1, (some .int))
def t_Ls_usual : List (Nat × Instr × Nat) := [(0, .iload_n 0, 1), (1, .bipush 20, 2), (3, .if_icmp .lt 11, 3), (6, .iload_n 0, 1), (7, .bipush 20, 2), (9, .isub, 1), (10, .bipush 10, 2), (12, .irem, 1), (13, .ireturn, 1), (14, .iload_n 0, 1), (15, .bipush 10, 2), (17, .if_icmp .lt 7, 3), (20, .sipush 9999, 3), (23, .ireturn, 1), (24, .iload_n 0, 1), (25, .lookupswitch (33) #[(2, 27), (4, 29)], 27), (52, .iconst 1, 1), (53, .ireturn, 1), (54, .sipush 365, 3), (57, .ireturn, 1), (58, .iconst 0, 1), (59, .ireturn, 1)]
theorem k_Ls_usual : sv_tk m_Ls_usual.2.1 t_Ls_usual := by decide +kernel
theorem g_Ls_usual : sv_G m_Ls_usual 1 := ⟨by decide +kernel, sv_in 803 (by decide +kernel) rfl, sv_in 94 (by decide +kernel) rfl, ⟨by decide, by decide⟩, by decide +kernel, by decide⟩
theorem st_Ls_usual : Cond.static m_Ls_usual.1 ∈ sv_T := sv_in 802 (by decide +kernel) rfl
def F_Ls_usual (x0 : Int32) (s : sv_S) : Option (Int32) :=
  if x0 < (20 : Int32) then
    if x0 < (10 : Int32) then
      if x0 = (2 : Int32) then
        some (1 : Int32)
      else if x0 = (4 : Int32) then
        some (365 : Int32)
      else 
      some (0 : Int32)
    else
    some (9999 : Int32)
  else
  some ((x0 - (20 : Int32)) - (x0 - (20 : Int32)) / (10 : Int32) * (10 : Int32))
theorem V_Ls_usual (E : sv_E) (d : Nat) (x0 : Int32) (s : sv_S) : sv_V E m_Ls_usual (d + 0) (ss_pi s) 0 (lv_args 0 [.int x0]) [] (ss_e s) (F_Ls_usual x0 s) := by
  show sv_V E m_Ls_usual (d + 0) (ss_pi s) 0 [(0, .int x0)] [] (ss_e s) _
  unfold F_Ls_usual
  refine sv_iload_n (pc := 0) 0 (sv_d k_Ls_usual 0 rfl) rfl rfl ?_
  refine sv_bipush (pc := 1) (v := (20 : Int32)) (sv_d k_Ls_usual 1 rfl) (by decide) ?_
  refine sv_icmp_lt (pc := 3) (tgt := 14) (sv_d k_Ls_usual 2 rfl) (by decide) ?_ ?_
  · refine sv_iload_n (pc := 14) 0 (sv_d k_Ls_usual 9 rfl) rfl rfl ?_
    refine sv_bipush (pc := 15) (v := (10 : Int32)) (sv_d k_Ls_usual 10 rfl) (by decide) ?_
    refine sv_icmp_lt (pc := 17) (tgt := 24) (sv_d k_Ls_usual 11 rfl) (by decide) ?_ ?_
    · refine sv_iload_n (pc := 24) 0 (sv_d k_Ls_usual 14 rfl) rfl rfl ?_
      refine ss_dec (fun hh1 => ?_) (fun hh1 => ?_)
      · refine sv_lk (pc := 25) (tgt := 52) (off := 27) (sv_d k_Ls_usual 15 rfl) (by decide) (by subst hh1; rfl) (by decide) ?_
        refine sv_iconst (pc := 52) (v := (1 : Int32)) (sv_d k_Ls_usual 16 rfl) (by decide) ?_
        exact sv_ret (pc := 53) (sv_d k_Ls_usual 17 rfl) ⟨_, rfl, rfl⟩ rfl
      · refine ss_dec (fun hh2 => ?_) (fun hh2 => ?_)
        · refine sv_lk (pc := 25) (tgt := 54) (off := 29) (sv_d k_Ls_usual 15 rfl) (by decide) (by subst hh2; rfl) (by decide) ?_
          refine sv_sipush (pc := 54) (v := (365 : Int32)) (sv_d k_Ls_usual 18 rfl) (by decide) ?_
          exact sv_ret (pc := 57) (sv_d k_Ls_usual 19 rfl) ⟨_, rfl, rfl⟩ rfl
        · refine sv_lk (pc := 25) (tgt := 58) (off := 33) (sv_d k_Ls_usual 15 rfl) (by decide) (by rw [show (#[(2, 27), (4, 29)] : Array (Int × Int)).toList = [(2, 27), (4, 29)] from rfl]; rw [lv_osw (a := 2) hh1 (by decide), lv_osw (a := 4) hh2 (by decide)]; rfl) (by decide) ?_
          refine sv_iconst (pc := 58) (v := (0 : Int32)) (sv_d k_Ls_usual 20 rfl) (by decide) ?_
          exact sv_ret (pc := 59) (sv_d k_Ls_usual 21 rfl) ⟨_, rfl, rfl⟩ rfl
    · refine sv_sipush (pc := 20) (v := (9999 : Int32)) (sv_d k_Ls_usual 12 rfl) (by decide) ?_
      exact sv_ret (pc := 23) (sv_d k_Ls_usual 13 rfl) ⟨_, rfl, rfl⟩ rfl
  · refine sv_iload_n (pc := 6) 0 (sv_d k_Ls_usual 3 rfl) rfl rfl ?_
    refine sv_bipush (pc := 7) (v := (20 : Int32)) (sv_d k_Ls_usual 4 rfl) (by decide) ?_
    refine sv_isub (pc := 9) (sv_d k_Ls_usual 5 rfl) ?_
    refine sv_bipush (pc := 10) (v := (10 : Int32)) (sv_d k_Ls_usual 6 rfl) (by decide) ?_
    refine sv_iremK (pc := 12) (sv_d k_Ls_usual 7 rfl) (by decide) ?_
    exact sv_ret (pc := 13) (sv_d k_Ls_usual 8 rfl) ⟨_, rfl, rfl⟩ rfl
/-! Ls_inForce -/
abbrev m_Ls_inForce : sv_M := (yX4_inForce, cX4_inForce, 5, (some (.object "PennyRates$Law")))
def t_Ls_inForce : List (Nat × Instr × Nat) := [(0, .iload_n 2, 1), (1, .aload_n 0, 1), (2, .getfield 33, 3), (5, .if_icmp .ne 12, 3), (8, .aload_n 0, 1), (9, .getfield 17, 3), (12, .iload_n 1, 1), (13, .iconst 1, 1), (14, .iadd, 1), (15, .aaload, 1), (16, .areturn, 1), (17, .iconst 0, 1), (18, .istore_n 3, 1), (19, .iload_n 3, 1), (20, .bipush 6, 2), (22, .if_icmp .gt 19, 3), (25, .aload_n 0, 1), (26, .getfield 17, 3), (29, .iload_n 3, 1), (30, .aload_n 0, 1), (31, .getfield 29, 3), (34, .aastore, 1), (35, .iinc 3 1, 3), (38, .goto (-19), 3), (41, .iconst 0, 1), (42, .istore_n 3, 1), (43, .iload_n 3, 1), (44, .aload_n 0, 1), (45, .getfield 37, 3), (48, .if_icmp .ge 63, 3), (51, .aload_n 0, 1), (52, .getfield 13, 3), (55, .iload_n 3, 1), (56, .aaload, 1), (57, .astore 4, 2), (59, .aload 4, 2), (61, .getfield 58, 3), (64, .iload_n 2, 1), (65, .if_icmp .gt 40, 3), (68, .aload 4, 2), (70, .getfield 58, 3), (73, .aload_n 0, 1), (74, .getfield 17, 3), (77, .aload 4, 2), (79, .getfield 61, 3), (82, .iconst 1, 1), (83, .iadd, 1), (84, .aaload, 1), (85, .getfield 58, 3), (88, .if_icmp .lt 17, 3), (91, .aload_n 0, 1), (92, .getfield 17, 3), (95, .aload 4, 2), (97, .getfield 61, 3), (100, .iconst 1, 1), (101, .iadd, 1), (102, .aload 4, 2), (104, .aastore, 1), (105, .iinc 3 1, 3), (108, .goto (-65), 3), (111, .aload_n 0, 1), (112, .iload_n 2, 1), (113, .putfield 33, 3), (116, .aload_n 0, 1), (117, .getfield 17, 3), (120, .iload_n 1, 1), (121, .iconst 1, 1), (122, .iadd, 1), (123, .aaload, 1), (124, .areturn, 1)]
theorem k_Ls_inForce : sv_tk m_Ls_inForce.2.1 t_Ls_inForce := by decide +kernel
theorem g_Ls_inForce : sv_G m_Ls_inForce 2 := ⟨by decide +kernel, sv_in 795 (by decide +kernel) rfl, sv_in 94 (by decide +kernel) rfl, ⟨by decide, by decide⟩, by decide +kernel, by decide⟩
theorem in_Ls_inForce : Cond.instanceMethod m_Ls_inForce.1 ∈ sv_T := sv_in 793 (by decide +kernel) rfl
theorem se_Ls_inForce : Cond.selects m_Ls_inForce.1.cls m_Ls_inForce.1 m_Ls_inForce.1 ∈ sv_T := sv_in 794 (by decide +kernel) rfl
def F_Ls_inForce_b105 (kc43 : Int32 → Int32 → Int32 → sv_S → Option (Nat × sv_S)) (x1 : Int32) (x2 : Int32) (x3 : Int32) (s : sv_S) : Option (Nat × sv_S) :=
  ss_let (x3 + (1 : Int32)) fun v6 =>
  kc43 x1 x2 v6 s
theorem V_Ls_inForce_b105 (E : sv_E) (d : Nat) (kc43 : Int32 → Int32 → Int32 → sv_S → Option (Nat × sv_S)) (hc43 : ∀ (x1 : Int32) (x2 : Int32) (x3 : Int32) (s : sv_S), sv_V E m_Ls_inForce (d + 0) (ss_q E) 43 [(0, sv_r E 81), (1, .int x1), (2, .int x2), (3, .int x3)] [] (ss_e s) (kc43 x1 x2 x3 s)) (x1 : Int32) (x2 : Int32) (x3 : Int32) (s : sv_S) : sv_V E m_Ls_inForce (d + 0) (ss_q E) 105 [(0, sv_r E 81), (1, .int x1), (2, .int x2), (3, .int x3)] [] (ss_e s) (F_Ls_inForce_b105 kc43 x1 x2 x3 s) := by
  unfold F_Ls_inForce_b105
  refine ss_letr (fun v6 e_v6 => ?_)
  refine sv_iinc (pc := 105) (v := v6) (lv' := [(3, .int v6), (0, sv_r E 81), (1, .int x1), (2, .int x2)]) (sv_d k_Ls_inForce 58 rfl) (n := 3) rfl (by rw [e_v6]; rfl) (by decide) rfl ?_
  refine sv_goto (pc := 108) (tgt := 43) (sv_d k_Ls_inForce 59 rfl) (by decide) ?_
  exact sv_loc [1, 2, 3, 0] rfl (hc43 x1 x2 v6 s)
def F_Ls_inForce_b43 : Nat → Int32 → Int32 → Int32 → sv_S → Option (Nat × sv_S)
  | 0 => fun _ _ _ _ => none
  | n + 1 => fun x1 x2 x3 s =>
    if (s.1 81 4) ≤ x3 then
      ss_let (ss_setI s 81 3 x2) fun s1 =>
      if sv_ib (x1 + (1 : Int32)) 7 = true then ss_let (s1.2.2.1 83 (x1 + (1 : Int32)).toNatClampNeg) fun w3 => if ss_ok2 s1 w3 2 = true then
        some (w3, s1)
      else none
      else none
    else
    if sv_ib x3 16 = true then ss_let (s.2.2.1 82 x3.toNatClampNeg) fun w5 => if ss_ok2 s w5 2 = true then
      if x2 < (s.1 w5 2) then
        F_Ls_inForce_b105 (F_Ls_inForce_b43  n) x1 x2 x3 s
      else
      if sv_ib ((s.1 w5 1) + (1 : Int32)) 7 = true then ss_let (s.2.2.1 83 ((s.1 w5 1) + (1 : Int32)).toNatClampNeg) fun w8 => if ss_ok2 s w8 2 = true then
        if (s.1 w5 2) < (s.1 w8 2) then
          F_Ls_inForce_b105 (F_Ls_inForce_b43  n) x1 x2 x3 s
        else
        if sv_ib ((s.1 w5 1) + (1 : Int32)) 7 = true then
          ss_let (ss_setG s 83 ((s.1 w5 1) + (1 : Int32)).toNatClampNeg w5) fun s9 =>
          F_Ls_inForce_b105 (F_Ls_inForce_b43  n) x1 x2 x3 s9
        else none
      else none
      else none
    else none
    else none
theorem V_Ls_inForce_b43 (E : sv_E) (d : Nat) : ∀ (n : Nat) (x1 : Int32) (x2 : Int32) (x3 : Int32) (s : sv_S), sv_V E m_Ls_inForce (d + 0) (ss_q E) 43 [(0, sv_r E 81), (1, .int x1), (2, .int x2), (3, .int x3)] [] (ss_e s) (F_Ls_inForce_b43 n x1 x2 x3 s) := by
  intro n
  induction n with
  | zero => intro x1 x2 x3 s; exact sv_none
  | succ n ih =>
    intro x1 x2 x3 s
    unfold F_Ls_inForce_b43
    refine sv_iload_n (pc := 43) 3 (sv_d k_Ls_inForce 26 rfl) rfl rfl ?_
    refine sv_aload_n (pc := 44) 0 (sv_d k_Ls_inForce 27 rfl) rfl rfl ?_
    refine sv_getf (pc := 45) 4 (sv_d k_Ls_inForce 28 rfl) cf4 (by decide) w233 kd81 (ss_lt (by decide)) rfl ?_
    refine sv_icmp_ge (pc := 48) (tgt := 111) (sv_d k_Ls_inForce 29 rfl) (by decide) ?_ ?_
    · refine sv_aload_n (pc := 111) 0 (sv_d k_Ls_inForce 60 rfl) rfl rfl ?_
      refine sv_iload_n (pc := 112) 2 (sv_d k_Ls_inForce 61 rfl) rfl rfl ?_
      refine ss_putI (pc := 113) 3 (sv_d k_Ls_inForce 62 rfl) cf4 (by decide) rfl w232 kd81 (ss_lt (by decide)) rfl rfl (fun _ => rfl) (ss_lets (fun s1 e_s1 => ?_))
      refine sv_aload_n (pc := 116) 0 (sv_d k_Ls_inForce 63 rfl) rfl rfl ?_
      refine sv_getf (pc := 117) 1 (sv_d k_Ls_inForce 64 rfl) cf4 (by decide) w230 kd81 (ss_lt (by decide)) (lr_81_1 E _) ?_
      refine sv_iload_n (pc := 120) 1 (sv_d k_Ls_inForce 65 rfl) rfl rfl ?_
      refine sv_iconst (pc := 121) (v := (1 : Int32)) (sv_d k_Ls_inForce 66 rfl) (by decide) ?_
      refine sv_iadd (pc := 122) (sv_d k_Ls_inForce 67 rfl) ?_
      refine ss_aaldG (pc := 123) (n := 7) (sv_d k_Ls_inForce 68 rfl) kd83 (ss_lt (by decide)) rfl (by decide) (ss_topR (fun w3 e_w3 => ss_gd2 (fun h_w3 o_w3 l_w3 => ?_)))
      exact sv_ret (pc := 124) (sv_d k_Ls_inForce 69 rfl) ⟨_, rfl, Or.inr ⟨_, rfl⟩⟩ rfl
    · refine sv_aload_n (pc := 51) 0 (sv_d k_Ls_inForce 30 rfl) rfl rfl ?_
      refine sv_getf (pc := 52) 0 (sv_d k_Ls_inForce 31 rfl) cf4 (by decide) w229 kd81 (ss_lt (by decide)) (lr_81_0 E _) ?_
      refine sv_iload_n (pc := 55) 3 (sv_d k_Ls_inForce 32 rfl) rfl rfl ?_
      refine ss_aaldG (pc := 56) (n := 16) (sv_d k_Ls_inForce 33 rfl) kd82 (ss_lt (by decide)) rfl (by decide) (ss_topR (fun w5 e_w5 => ss_gd2 (fun h_w5 o_w5 l_w5 => ?_)))
      refine sv_astore (pc := 57) (lv' := [(4, sv_r E w5), (0, sv_r E 81), (1, .int x1), (2, .int x2), (3, .int x3)]) (sv_d k_Ls_inForce 34 rfl) (by decide) rfl ?_
      refine sv_aload (pc := 59) 0 (sv_d k_Ls_inForce 35 rfl) rfl ?_
      refine sv_getN (pc := 61) 2 (sv_d k_Ls_inForce 36 rfl) cf2 (by decide) w209 h_w5 l_w5 rfl ?_
      refine sv_iload_n (pc := 64) 3 (sv_d k_Ls_inForce 37 rfl) rfl rfl ?_
      refine sv_icmp_gt (pc := 65) (tgt := 105) (sv_d k_Ls_inForce 38 rfl) (by decide) ?_ ?_
      · exact sv_loc [1, 2, 3, 4] rfl (V_Ls_inForce_b105 E d (F_Ls_inForce_b43  n) ih x1 x2 x3 s)
      · refine sv_aload (pc := 68) 0 (sv_d k_Ls_inForce 39 rfl) rfl ?_
        refine sv_getN (pc := 70) 2 (sv_d k_Ls_inForce 40 rfl) cf2 (by decide) w209 h_w5 l_w5 rfl ?_
        refine sv_aload_n (pc := 73) 1 (sv_d k_Ls_inForce 41 rfl) rfl rfl ?_
        refine sv_getf (pc := 74) 1 (sv_d k_Ls_inForce 42 rfl) cf4 (by decide) w230 kd81 (ss_lt (by decide)) (lr_81_1 E _) ?_
        refine sv_aload (pc := 77) 0 (sv_d k_Ls_inForce 43 rfl) rfl ?_
        refine sv_getN (pc := 79) 1 (sv_d k_Ls_inForce 44 rfl) cf2 (by decide) w207 h_w5 l_w5 rfl ?_
        refine sv_iconst (pc := 82) (v := (1 : Int32)) (sv_d k_Ls_inForce 45 rfl) (by decide) ?_
        refine sv_iadd (pc := 83) (sv_d k_Ls_inForce 46 rfl) ?_
        refine ss_aaldG (pc := 84) (n := 7) (sv_d k_Ls_inForce 47 rfl) kd83 (ss_lt (by decide)) rfl (by decide) (ss_topR (fun w8 e_w8 => ss_gd2 (fun h_w8 o_w8 l_w8 => ?_)))
        refine sv_getN (pc := 85) 2 (sv_d k_Ls_inForce 48 rfl) cf2 (by decide) w209 h_w8 l_w8 rfl ?_
        refine sv_icmp_lt (pc := 88) (tgt := 105) (sv_d k_Ls_inForce 49 rfl) (by decide) ?_ ?_
        · exact sv_loc [1, 2, 3, 4] rfl (V_Ls_inForce_b105 E d (F_Ls_inForce_b43  n) ih x1 x2 x3 s)
        · refine sv_aload_n (pc := 91) 1 (sv_d k_Ls_inForce 50 rfl) rfl rfl ?_
          refine sv_getf (pc := 92) 1 (sv_d k_Ls_inForce 51 rfl) cf4 (by decide) w230 kd81 (ss_lt (by decide)) (lr_81_1 E _) ?_
          refine sv_aload (pc := 95) 0 (sv_d k_Ls_inForce 52 rfl) rfl ?_
          refine sv_getN (pc := 97) 1 (sv_d k_Ls_inForce 53 rfl) cf2 (by decide) w207 h_w5 l_w5 rfl ?_
          refine sv_iconst (pc := 100) (v := (1 : Int32)) (sv_d k_Ls_inForce 54 rfl) (by decide) ?_
          refine sv_iadd (pc := 101) (sv_d k_Ls_inForce 55 rfl) ?_
          refine sv_aload (pc := 102) 0 (sv_d k_Ls_inForce 56 rfl) rfl ?_
          refine ss_aastG (pc := 104) (n := 7) (sv_d k_Ls_inForce 57 rfl) kd83 (by decide) (ss_lt (by decide)) rfl (by decide) h_w5 l_w5 (ss_lets (fun s9 e_s9 => ?_))
          have l_w5 : w5 < 243 + s9.2.2.2.2.1 := by rw [e_s9]; exact l_w5
          have l_w8 : w8 < 243 + s9.2.2.2.2.1 := by rw [e_s9]; exact l_w8
          exact sv_loc [1, 2, 3, 4] rfl (V_Ls_inForce_b105 E d (F_Ls_inForce_b43  n) ih x1 x2 x3 s9)
def F_Ls_inForce_b19 : Nat → Int32 → Int32 → Int32 → sv_S → Option (Nat × sv_S)
  | 0 => fun _ _ _ _ => none
  | n + 1 => fun x1 x2 x3 s =>
    if (6 : Int32) < x3 then
      F_Ls_inForce_b43 ss_F x1 x2 (0 : Int32) s
    else
    if sv_ib x3 7 = true then
      ss_let (ss_setG s 83 x3.toNatClampNeg 85) fun s10 =>
      ss_let (x3 + (1 : Int32)) fun v11 =>
      F_Ls_inForce_b19  n x1 x2 v11 s10
    else none
theorem V_Ls_inForce_b19 (E : sv_E) (d : Nat) : ∀ (n : Nat) (x1 : Int32) (x2 : Int32) (x3 : Int32) (s : sv_S), sv_V E m_Ls_inForce (d + 0) (ss_q E) 19 [(0, sv_r E 81), (1, .int x1), (2, .int x2), (3, .int x3)] [] (ss_e s) (F_Ls_inForce_b19 n x1 x2 x3 s) := by
  intro n
  induction n with
  | zero => intro x1 x2 x3 s; exact sv_none
  | succ n ih =>
    intro x1 x2 x3 s
    unfold F_Ls_inForce_b19
    refine sv_iload_n (pc := 19) 3 (sv_d k_Ls_inForce 13 rfl) rfl rfl ?_
    refine sv_bipush (pc := 20) (v := (6 : Int32)) (sv_d k_Ls_inForce 14 rfl) (by decide) ?_
    refine sv_icmp_gt (pc := 22) (tgt := 41) (sv_d k_Ls_inForce 15 rfl) (by decide) ?_ ?_
    · refine sv_iconst (pc := 41) (v := (0 : Int32)) (sv_d k_Ls_inForce 24 rfl) (by decide) ?_
      refine sv_istore_n (pc := 42) (lv' := [(3, .int (0 : Int32)), (0, sv_r E 81), (1, .int x1), (2, .int x2)]) (sv_d k_Ls_inForce 25 rfl) rfl (by decide) rfl ?_
      exact sv_loc [1, 2, 3, 0] rfl (V_Ls_inForce_b43 E d ss_F x1 x2 (0 : Int32) s)
    · refine sv_aload_n (pc := 25) 0 (sv_d k_Ls_inForce 16 rfl) rfl rfl ?_
      refine sv_getf (pc := 26) 1 (sv_d k_Ls_inForce 17 rfl) cf4 (by decide) w230 kd81 (ss_lt (by decide)) (lr_81_1 E _) ?_
      refine sv_iload_n (pc := 29) 3 (sv_d k_Ls_inForce 18 rfl) rfl rfl ?_
      refine sv_aload_n (pc := 30) 0 (sv_d k_Ls_inForce 19 rfl) rfl rfl ?_
      refine sv_getf (pc := 31) 2 (sv_d k_Ls_inForce 20 rfl) cf4 (by decide) w231 kd81 (ss_lt (by decide)) (lr_81_2 E _) ?_
      refine ss_aastG (pc := 34) (n := 7) (sv_d k_Ls_inForce 21 rfl) kd83 (by decide) (ss_lt (by decide)) rfl (by decide) kd85 (ss_lt (by decide)) (ss_lets (fun s10 e_s10 => ?_))
      refine ss_letr (fun v11 e_v11 => ?_)
      refine sv_iinc (pc := 35) (v := v11) (lv' := [(3, .int v11), (0, sv_r E 81), (1, .int x1), (2, .int x2)]) (sv_d k_Ls_inForce 22 rfl) (n := 3) rfl (by rw [e_v11]; rfl) (by decide) rfl ?_
      refine sv_goto (pc := 38) (tgt := 19) (sv_d k_Ls_inForce 23 rfl) (by decide) ?_
      exact sv_loc [1, 2, 3, 0] rfl (ih x1 x2 v11 s10)
def F_Ls_inForce (x1 : Int32) (x2 : Int32) (s : sv_S) : Option (Nat × sv_S) :=
  if x2 = (s.1 81 3) then
    if sv_ib (x1 + (1 : Int32)) 7 = true then ss_let (s.2.2.1 83 (x1 + (1 : Int32)).toNatClampNeg) fun w13 => if ss_ok2 s w13 2 = true then
      some (w13, s)
    else none
    else none
  else
  F_Ls_inForce_b19 ss_F x1 x2 (0 : Int32) s
theorem V_Ls_inForce (E : sv_E) (d : Nat) (x1 : Int32) (x2 : Int32) (s : sv_S) : sv_V E m_Ls_inForce (d + 0) (ss_q E) 0 (lv_args 0 [sv_r E 81, .int x1, .int x2]) [] (ss_e s) (F_Ls_inForce x1 x2 s) := by
  show sv_V E m_Ls_inForce (d + 0) (ss_q E) 0 [(0, sv_r E 81), (1, .int x1), (2, .int x2)] [] (ss_e s) _
  unfold F_Ls_inForce
  refine sv_iload_n (pc := 0) 2 (sv_d k_Ls_inForce 0 rfl) rfl rfl ?_
  refine sv_aload_n (pc := 1) 0 (sv_d k_Ls_inForce 1 rfl) rfl rfl ?_
  refine sv_getf (pc := 2) 3 (sv_d k_Ls_inForce 2 rfl) cf4 (by decide) w232 kd81 (ss_lt (by decide)) rfl ?_
  refine sv_icmp_ne (pc := 5) (tgt := 17) (sv_d k_Ls_inForce 3 rfl) (by decide) ?_ ?_
  · refine sv_iconst (pc := 17) (v := (0 : Int32)) (sv_d k_Ls_inForce 11 rfl) (by decide) ?_
    refine sv_istore_n (pc := 18) (lv' := [(3, .int (0 : Int32)), (0, sv_r E 81), (1, .int x1), (2, .int x2)]) (sv_d k_Ls_inForce 12 rfl) rfl (by decide) rfl ?_
    exact sv_loc [1, 2, 3, 0] rfl (V_Ls_inForce_b19 E d ss_F x1 x2 (0 : Int32) s)
  · refine sv_aload_n (pc := 8) 0 (sv_d k_Ls_inForce 4 rfl) rfl rfl ?_
    refine sv_getf (pc := 9) 1 (sv_d k_Ls_inForce 5 rfl) cf4 (by decide) w230 kd81 (ss_lt (by decide)) (lr_81_1 E _) ?_
    refine sv_iload_n (pc := 12) 1 (sv_d k_Ls_inForce 6 rfl) rfl rfl ?_
    refine sv_iconst (pc := 13) (v := (1 : Int32)) (sv_d k_Ls_inForce 7 rfl) (by decide) ?_
    refine sv_iadd (pc := 14) (sv_d k_Ls_inForce 8 rfl) ?_
    refine ss_aaldG (pc := 15) (n := 7) (sv_d k_Ls_inForce 9 rfl) kd83 (ss_lt (by decide)) rfl (by decide) (ss_topR (fun w13 e_w13 => ss_gd2 (fun h_w13 o_w13 l_w13 => ?_)))
    exact sv_ret (pc := 16) (sv_d k_Ls_inForce 10 rfl) ⟨_, rfl, Or.inr ⟨_, rfl⟩⟩ rfl
/-! Ls_value -/
abbrev m_Ls_value : sv_M := (yX4_value, cX4_value, 6, (some .int))
def t_Ls_value : List (Nat × Instr × Nat) := [(0, .aload_n 0, 1), (1, .iload_n 1, 1), (2, .iload_n 2, 1), (3, .invokevirtual 64, 3), (6, .getfield 68, 3), (9, .iload_n 3, 1), (10, .iaload, 1), (11, .istore 4, 2), (13, .iload 4, 2), (15, .ifCond .lt 6, 3), (18, .iload 4, 2), (20, .ireturn, 1), (21, .aload_n 0, 1), (22, .iconst (-1), 1), (23, .iload_n 2, 1), (24, .invokevirtual 64, 3), (27, .getfield 68, 3), (30, .iload_n 3, 1), (31, .iaload, 1), (32, .istore 5, 2), (34, .iload 5, 2), (36, .ifCond .lt 8, 3), (39, .iload 5, 2), (41, .goto 7, 3), (44, .iload_n 3, 1), (45, .invokestatic 69, 3), (48, .ireturn, 1)]
theorem k_Ls_value : sv_tk m_Ls_value.2.1 t_Ls_value := by decide +kernel
theorem g_Ls_value : sv_G m_Ls_value 3 := ⟨by decide +kernel, sv_in 799 (by decide +kernel) rfl, sv_in 94 (by decide +kernel) rfl, ⟨by decide, by decide⟩, by decide +kernel, by decide⟩
theorem in_Ls_value : Cond.instanceMethod m_Ls_value.1 ∈ sv_T := sv_in 797 (by decide +kernel) rfl
theorem se_Ls_value : Cond.selects m_Ls_value.1.cls m_Ls_value.1 m_Ls_value.1 ∈ sv_T := sv_in 798 (by decide +kernel) rfl
def F_Ls_value (x1 : Int32) (x2 : Int32) (x3 : Int32) (s : sv_S) : Option (Int32 × sv_S) :=
  (F_Ls_inForce x1 x2 s).bind fun r1 =>
  if ss_ok2 r1.2 r1.1 2 = true then
    (ss_LR r1.1 3).bind fun w3 => if ss_ok2 r1.2 w3 20 = true then
      if sv_ib x3 (ss_N r1.2.2.2.2.1 w3) = true then
        ss_let (r1.2.1 w3 x3.toNatClampNeg) fun v5 =>
        if v5 < 0 then
          (F_Ls_inForce (-1 : Int32) x2 r1.2).bind fun r6 =>
          if ss_ok2 r6.2 r6.1 2 = true then
            (ss_LR r6.1 3).bind fun w8 => if ss_ok2 r6.2 w8 20 = true then
              if sv_ib x3 (ss_N r6.2.2.2.2.1 w8) = true then
                ss_let (r6.2.1 w8 x3.toNatClampNeg) fun v10 =>
                if v10 < 0 then
                  (F_Ls_usual x3 r6.2).bind fun r11 =>
                  some (r11, r6.2)
                else
                some (v10, r6.2)
              else none
            else none
          else none
        else
        some (v5, r1.2)
      else none
    else none
  else none
theorem V_Ls_value (E : sv_E) (d : Nat) (x1 : Int32) (x2 : Int32) (x3 : Int32) (s : sv_S) : sv_V E m_Ls_value (d + 1) ss_i 0 (lv_args 0 [sv_r E 81, .int x1, .int x2, .int x3]) [] (ss_e s) (F_Ls_value x1 x2 x3 s) := by
  show sv_V E m_Ls_value (d + 1) ss_i 0 [(0, sv_r E 81), (1, .int x1), (2, .int x2), (3, .int x3)] [] (ss_e s) _
  unfold F_Ls_value
  refine sv_aload_n (pc := 0) 0 (sv_d k_Ls_value 0 rfl) rfl rfl ?_
  refine sv_iload_n (pc := 1) 1 (sv_d k_Ls_value 1 rfl) rfl rfl ?_
  refine sv_iload_n (pc := 2) 2 (sv_d k_Ls_value 2 rfl) rfl rfl ?_
  refine sv_callV (pc := 3) (ψ := (ss_q E)) (As := [.int x1, .int x2]) (rest := []) (c := 81) (sv_d k_Ls_value 3 rfl) g_Ls_inForce w800 in_Ls_inForce se_Ls_inForce cf4 kd81 (ss_lt (by decide)) rfl (Nat.le_of_ble_eq_true rfl) (V_Ls_inForce E (d + 0) x1 x2 s) (Nat.le_of_ble_eq_true rfl) rfl (fun r1 => ?_)
  show sv_V E _ _ _ 6 _ [sv_r E r1.1] (ss_e r1.2) _
  refine ss_gd2 (fun h_g2 o_g2 l_g2 => ?_)
  refine ss_getRN (pc := 6) 3 (sv_d k_Ls_value 4 rfl) cf2 (by decide) w211 h_g2 l_g2 rfl (by decide) (fun w3 => ss_gd2 (fun h_w3 o_w3 l_w3 => ?_))
  refine sv_iload_n (pc := 9) 3 (sv_d k_Ls_value 5 rfl) rfl rfl ?_
  refine ss_iald (pc := 10) (n := (ss_N r1.2.2.2.2.1 w3)) (sv_d k_Ls_value 6 rfl) h_w3 l_w3 rfl ?_
  refine ss_top (fun v5 e_v5 => ?_)
  refine sv_istore (pc := 11) (lv' := [(4, .int v5), (0, sv_r E 81), (1, .int x1), (2, .int x2), (3, .int x3)]) (sv_d k_Ls_value 7 rfl) (by decide) rfl ?_
  refine sv_iload (pc := 13) 0 (sv_d k_Ls_value 8 rfl) rfl ?_
  refine sv_if_lt (pc := 15) (tgt := 21) (sv_d k_Ls_value 9 rfl) (by decide) ?_ ?_
  · refine sv_aload_n (pc := 21) 1 (sv_d k_Ls_value 12 rfl) rfl rfl ?_
    refine sv_iconst (pc := 22) (v := (-1 : Int32)) (sv_d k_Ls_value 13 rfl) (by decide) ?_
    refine sv_iload_n (pc := 23) 3 (sv_d k_Ls_value 14 rfl) rfl rfl ?_
    refine sv_callV (pc := 24) (ψ := (ss_q E)) (As := [.int (-1 : Int32), .int x2]) (rest := []) (c := 81) (sv_d k_Ls_value 15 rfl) g_Ls_inForce w800 in_Ls_inForce se_Ls_inForce cf4 kd81 (ss_lt (by decide)) rfl (Nat.le_of_ble_eq_true rfl) (V_Ls_inForce E (d + 0) (-1 : Int32) x2 r1.2) (Nat.le_of_ble_eq_true rfl) rfl (fun r6 => ?_)
    show sv_V E _ _ _ 27 _ [sv_r E r6.1] (ss_e r6.2) _
    refine ss_gd2 (fun h_g7 o_g7 l_g7 => ?_)
    refine ss_getRN (pc := 27) 3 (sv_d k_Ls_value 16 rfl) cf2 (by decide) w211 h_g7 l_g7 rfl (by decide) (fun w8 => ss_gd2 (fun h_w8 o_w8 l_w8 => ?_))
    refine sv_iload_n (pc := 30) 4 (sv_d k_Ls_value 17 rfl) rfl rfl ?_
    refine ss_iald (pc := 31) (n := (ss_N r6.2.2.2.2.1 w8)) (sv_d k_Ls_value 18 rfl) h_w8 l_w8 rfl ?_
    refine ss_top (fun v10 e_v10 => ?_)
    refine sv_istore (pc := 32) (lv' := [(5, .int v10), (4, .int v5), (0, sv_r E 81), (1, .int x1), (2, .int x2), (3, .int x3)]) (sv_d k_Ls_value 19 rfl) (by decide) rfl ?_
    refine sv_iload (pc := 34) 0 (sv_d k_Ls_value 20 rfl) rfl ?_
    refine sv_if_lt (pc := 36) (tgt := 44) (sv_d k_Ls_value 21 rfl) (by decide) ?_ ?_
    · refine sv_iload_n (pc := 44) 5 (sv_d k_Ls_value 24 rfl) rfl rfl ?_
      refine sv_callS (pc := 45) (ψ := (ss_pi r6.2)) (As := [.int x3]) (rest := []) (sv_d k_Ls_value 25 rfl) g_Ls_usual w801 st_Ls_usual rfl (Nat.le_of_ble_eq_true rfl) (V_Ls_usual E (d + 0) x3 r6.2) (Nat.le_of_ble_eq_true rfl) rfl (fun r11 => ?_)
      show sv_V E _ _ _ 48 _ [.int r11] (ss_e r6.2) _
      exact sv_ret (pc := 48) (sv_d k_Ls_value 26 rfl) ⟨_, rfl, rfl⟩ rfl
    · refine sv_iload (pc := 39) 0 (sv_d k_Ls_value 22 rfl) rfl ?_
      refine sv_goto (pc := 41) (tgt := 48) (sv_d k_Ls_value 23 rfl) (by decide) ?_
      exact sv_ret (pc := 48) (sv_d k_Ls_value 26 rfl) ⟨_, rfl, rfl⟩ rfl
  · refine sv_iload (pc := 18) 0 (sv_d k_Ls_value 10 rfl) rfl ?_
    exact sv_ret (pc := 20) (sv_d k_Ls_value 11 rfl) ⟨_, rfl, rfl⟩ rfl
/-! Rs_has -/
abbrev m_Rs_has : sv_M := (yX6_has, cX6_has, 2, (some .boolean))
def t_Rs_has : List (Nat × Instr × Nat) := [(0, .iload_n 1, 1), (1, .ifCond .lt 15, 3), (4, .iload_n 1, 1), (5, .aload_n 0, 1), (6, .getfield 30, 3), (9, .if_icmp .ge 7, 3), (12, .iconst 1, 1), (13, .goto 4, 3), (16, .iconst 0, 1), (17, .ireturn, 1)]
theorem k_Rs_has : sv_tk m_Rs_has.2.1 t_Rs_has := by decide +kernel
theorem g_Rs_has : sv_G m_Rs_has 1 := ⟨by decide +kernel, sv_in 845 (by decide +kernel) rfl, sv_in 96 (by decide +kernel) rfl, ⟨by decide, by decide⟩, by decide +kernel, by decide⟩
theorem in_Rs_has : Cond.instanceMethod m_Rs_has.1 ∈ sv_T := sv_in 843 (by decide +kernel) rfl
theorem se_Rs_has : Cond.selects m_Rs_has.1.cls m_Rs_has.1 m_Rs_has.1 ∈ sv_T := sv_in 844 (by decide +kernel) rfl
def F_Rs_has (x1 : Int32) (s : sv_S) : Option (Int32) :=
  if x1 < 0 then
    some (0 : Int32)
  else
  if (s.1 88 4) ≤ x1 then
    some (0 : Int32)
  else
  some (1 : Int32)
theorem V_Rs_has (E : sv_E) (d : Nat) (x1 : Int32) (s : sv_S) : sv_V E m_Rs_has (d + 0) (ss_pi s) 0 (lv_args 0 [sv_r E 88, .int x1]) [] (ss_e s) (F_Rs_has x1 s) := by
  show sv_V E m_Rs_has (d + 0) (ss_pi s) 0 [(0, sv_r E 88), (1, .int x1)] [] (ss_e s) _
  unfold F_Rs_has
  refine sv_iload_n (pc := 0) 1 (sv_d k_Rs_has 0 rfl) rfl rfl ?_
  refine sv_if_lt (pc := 1) (tgt := 16) (sv_d k_Rs_has 1 rfl) (by decide) ?_ ?_
  · refine sv_iconst (pc := 16) (v := (0 : Int32)) (sv_d k_Rs_has 8 rfl) (by decide) ?_
    exact sv_ret (pc := 17) (sv_d k_Rs_has 9 rfl) ⟨_, rfl, rfl⟩ rfl
  · refine sv_iload_n (pc := 4) 1 (sv_d k_Rs_has 2 rfl) rfl rfl ?_
    refine sv_aload_n (pc := 5) 0 (sv_d k_Rs_has 3 rfl) rfl rfl ?_
    refine sv_getf (pc := 6) 4 (sv_d k_Rs_has 4 rfl) cf6 (by decide) w331 kd88 (ss_lt (by decide)) rfl ?_
    refine sv_icmp_ge (pc := 9) (tgt := 16) (sv_d k_Rs_has 5 rfl) (by decide) ?_ ?_
    · refine sv_iconst (pc := 16) (v := (0 : Int32)) (sv_d k_Rs_has 8 rfl) (by decide) ?_
      exact sv_ret (pc := 17) (sv_d k_Rs_has 9 rfl) ⟨_, rfl, rfl⟩ rfl
    · refine sv_iconst (pc := 12) (v := (1 : Int32)) (sv_d k_Rs_has 6 rfl) (by decide) ?_
      refine sv_goto (pc := 13) (tgt := 17) (sv_d k_Rs_has 7 rfl) (by decide) ?_
      exact sv_ret (pc := 17) (sv_d k_Rs_has 9 rfl) ⟨_, rfl, rfl⟩ rfl
/-! Rs_areFull -/
abbrev m_Rs_areFull : sv_M := (yX6_areFull, cX6_areFull, 1, (some .boolean))
def t_Rs_areFull : List (Nat × Instr × Nat) := [(0, .aload_n 0, 1), (1, .getfield 30, 3), (4, .bipush 60, 2), (6, .if_icmp .lt 7, 3), (9, .iconst 1, 1), (10, .goto 4, 3), (13, .iconst 0, 1), (14, .ireturn, 1)]
theorem k_Rs_areFull : sv_tk m_Rs_areFull.2.1 t_Rs_areFull := by decide +kernel
theorem g_Rs_areFull : sv_G m_Rs_areFull 0 := ⟨by decide +kernel, sv_in 814 (by decide +kernel) rfl, sv_in 96 (by decide +kernel) rfl, ⟨by decide, by decide⟩, by decide +kernel, by decide⟩
theorem in_Rs_areFull : Cond.instanceMethod m_Rs_areFull.1 ∈ sv_T := sv_in 812 (by decide +kernel) rfl
theorem se_Rs_areFull : Cond.selects m_Rs_areFull.1.cls m_Rs_areFull.1 m_Rs_areFull.1 ∈ sv_T := sv_in 813 (by decide +kernel) rfl
def F_Rs_areFull (s : sv_S) : Option (Int32) :=
  if (s.1 88 4) < (60 : Int32) then
    some (0 : Int32)
  else
  some (1 : Int32)
theorem V_Rs_areFull (E : sv_E) (d : Nat) (s : sv_S) : sv_V E m_Rs_areFull (d + 0) (ss_pi s) 0 (lv_args 0 [sv_r E 88]) [] (ss_e s) (F_Rs_areFull s) := by
  show sv_V E m_Rs_areFull (d + 0) (ss_pi s) 0 [(0, sv_r E 88)] [] (ss_e s) _
  unfold F_Rs_areFull
  refine sv_aload_n (pc := 0) 0 (sv_d k_Rs_areFull 0 rfl) rfl rfl ?_
  refine sv_getf (pc := 1) 4 (sv_d k_Rs_areFull 1 rfl) cf6 (by decide) w331 kd88 (ss_lt (by decide)) rfl ?_
  refine sv_bipush (pc := 4) (v := (60 : Int32)) (sv_d k_Rs_areFull 2 rfl) (by decide) ?_
  refine sv_icmp_lt (pc := 6) (tgt := 13) (sv_d k_Rs_areFull 3 rfl) (by decide) ?_ ?_
  · refine sv_iconst (pc := 13) (v := (0 : Int32)) (sv_d k_Rs_areFull 6 rfl) (by decide) ?_
    exact sv_ret (pc := 14) (sv_d k_Rs_areFull 7 rfl) ⟨_, rfl, rfl⟩ rfl
  · refine sv_iconst (pc := 9) (v := (1 : Int32)) (sv_d k_Rs_areFull 4 rfl) (by decide) ?_
    refine sv_goto (pc := 10) (tgt := 14) (sv_d k_Rs_areFull 5 rfl) (by decide) ?_
    exact sv_ret (pc := 14) (sv_d k_Rs_areFull 7 rfl) ⟨_, rfl, rfl⟩ rfl
/-! Rs_row -/
abbrev m_Rs_row : sv_M := (yX6_row, cX6_row, 2, (some (.object "PennyRates$Rate")))
def t_Rs_row : List (Nat × Instr × Nat) := [(0, .aload_n 0, 1), (1, .getfield 13, 3), (4, .iload_n 1, 1), (5, .aaload, 1), (6, .areturn, 1)]
theorem k_Rs_row : sv_tk m_Rs_row.2.1 t_Rs_row := by decide +kernel
theorem g_Rs_row : sv_G m_Rs_row 1 := ⟨by decide +kernel, sv_in 837 (by decide +kernel) rfl, sv_in 96 (by decide +kernel) rfl, ⟨by decide, by decide⟩, by decide +kernel, by decide⟩
theorem in_Rs_row : Cond.instanceMethod m_Rs_row.1 ∈ sv_T := sv_in 835 (by decide +kernel) rfl
theorem se_Rs_row : Cond.selects m_Rs_row.1.cls m_Rs_row.1 m_Rs_row.1 ∈ sv_T := sv_in 836 (by decide +kernel) rfl
def F_Rs_row (x1 : Int32) (s : sv_S) : Option (Nat) :=
  if sv_ib x1 60 = true then
    some (91 + x1.toNatClampNeg)
  else none
theorem V_Rs_row (E : sv_E) (d : Nat) (x1 : Int32) (s : sv_S) : sv_V E m_Rs_row (d + 0) (ss_pq E s) 0 (lv_args 0 [sv_r E 88, .int x1]) [] (ss_e s) (F_Rs_row x1 s) := by
  show sv_V E m_Rs_row (d + 0) (ss_pq E s) 0 [(0, sv_r E 88), (1, .int x1)] [] (ss_e s) _
  unfold F_Rs_row
  refine sv_aload_n (pc := 0) 0 (sv_d k_Rs_row 0 rfl) rfl rfl ?_
  refine sv_getf (pc := 1) 2 (sv_d k_Rs_row 1 rfl) cf6 (by decide) w329 kd88 (ss_lt (by decide)) (lr_88_2 E _) ?_
  refine sv_iload_n (pc := 4) 1 (sv_d k_Rs_row 2 rfl) rfl rfl ?_
  refine ss_aaldT (pc := 5) (n := 60) (b := 91) (sv_d k_Rs_row 3 rfl) kd89 (by decide) (by decide) rfl (ss_lt (by decide)) rfl ss_row89 (by decide) (fun _ => rfl) (fun bb1 => ?_)
  exact sv_ret (pc := 6) (sv_d k_Rs_row 4 rfl) ⟨_, rfl, Or.inr ⟨_, rfl⟩⟩ rfl
/-! Rs_add -/
abbrev m_Rs_add : sv_M := (yX6_add, cX6_add, 9, (some .int))
def t_Rs_add : List (Nat × Instr × Nat) := [(0, .aload_n 0, 1), (1, .getfield 13, 3), (4, .aload_n 0, 1), (5, .getfield 30, 3), (8, .aaload, 1), (9, .astore 8, 2), (11, .aload 8, 2), (13, .aload_n 0, 1), (14, .getfield 30, 3), (17, .putfield 34, 3), (20, .aload 8, 2), (22, .iload_n 1, 1), (23, .putfield 37, 3), (26, .aload 8, 2), (28, .iload_n 2, 1), (29, .putfield 40, 3), (32, .aload 8, 2), (34, .iload_n 3, 1), (35, .putfield 43, 3), (38, .aload 8, 2), (40, .iload 4, 2), (42, .putfield 46, 3), (45, .aload 8, 2), (47, .iload 5, 2), (49, .putfield 49, 3), (52, .aload 8, 2), (54, .iload 6, 2), (56, .putfield 52, 3), (59, .aload 8, 2), (61, .iload 7, 2), (63, .putfield 55, 3), (66, .aload 8, 2), (68, .iconst (-1), 1), (69, .putfield 58, 3), (72, .aload 8, 2), (74, .iconst 1, 1), (75, .putfield 61, 3), (78, .aload 8, 2), (80, .iconst (-1), 1), (81, .putfield 64, 3), (84, .aload_n 0, 1), (85, .dup, 1), (86, .getfield 30, 3), (89, .dup_x1, 1), (90, .iconst 1, 1), (91, .iadd, 1), (92, .putfield 30, 3), (95, .ireturn, 1)]
theorem k_Rs_add : sv_tk m_Rs_add.2.1 t_Rs_add := by decide +kernel
theorem g_Rs_add : sv_G m_Rs_add 7 := ⟨by decide +kernel, sv_in 823 (by decide +kernel) rfl, sv_in 96 (by decide +kernel) rfl, ⟨by decide, by decide⟩, by decide +kernel, by decide⟩
theorem in_Rs_add : Cond.instanceMethod m_Rs_add.1 ∈ sv_T := sv_in 821 (by decide +kernel) rfl
theorem se_Rs_add : Cond.selects m_Rs_add.1.cls m_Rs_add.1 m_Rs_add.1 ∈ sv_T := sv_in 822 (by decide +kernel) rfl
def F_Rs_add (x1 : Int32) (x2 : Int32) (x3 : Int32) (x4 : Int32) (x5 : Int32) (x6 : Int32) (x7 : Int32) (s : sv_S) : Option (Int32 × sv_S) :=
  if sv_ib (s.1 88 4) 60 = true then
    ss_let (ss_setI s (91 + (s.1 88 4).toNatClampNeg) 0 (s.1 88 4)) fun s2 =>
    ss_let (ss_setI s2 (91 + (s.1 88 4).toNatClampNeg) 1 x1) fun s3 =>
    ss_let (ss_setI s3 (91 + (s.1 88 4).toNatClampNeg) 2 x2) fun s4 =>
    ss_let (ss_setI s4 (91 + (s.1 88 4).toNatClampNeg) 3 x3) fun s5 =>
    ss_let (ss_setI s5 (91 + (s.1 88 4).toNatClampNeg) 4 x4) fun s6 =>
    ss_let (ss_setI s6 (91 + (s.1 88 4).toNatClampNeg) 5 x5) fun s7 =>
    ss_let (ss_setI s7 (91 + (s.1 88 4).toNatClampNeg) 6 x6) fun s8 =>
    ss_let (ss_setI s8 (91 + (s.1 88 4).toNatClampNeg) 7 x7) fun s9 =>
    ss_let (ss_setI s9 (91 + (s.1 88 4).toNatClampNeg) 8 (-1 : Int32)) fun s10 =>
    ss_let (ss_setI s10 (91 + (s.1 88 4).toNatClampNeg) 9 (1 : Int32)) fun s11 =>
    ss_let (ss_setI s11 (91 + (s.1 88 4).toNatClampNeg) 10 (-1 : Int32)) fun s12 =>
    ss_let (ss_setI s12 88 4 ((s12.1 88 4) + (1 : Int32))) fun s13 =>
    some (s12.1 88 4, s13)
  else none
theorem V_Rs_add (E : sv_E) (d : Nat) (x1 : Int32) (x2 : Int32) (x3 : Int32) (x4 : Int32) (x5 : Int32) (x6 : Int32) (x7 : Int32) (s : sv_S) : sv_V E m_Rs_add (d + 0) ss_i 0 (lv_args 0 [sv_r E 88, .int x1, .int x2, .int x3, .int x4, .int x5, .int x6, .int x7]) [] (ss_e s) (F_Rs_add x1 x2 x3 x4 x5 x6 x7 s) := by
  show sv_V E m_Rs_add (d + 0) ss_i 0 [(0, sv_r E 88), (1, .int x1), (2, .int x2), (3, .int x3), (4, .int x4), (5, .int x5), (6, .int x6), (7, .int x7)] [] (ss_e s) _
  unfold F_Rs_add
  refine sv_aload_n (pc := 0) 0 (sv_d k_Rs_add 0 rfl) rfl rfl ?_
  refine sv_getf (pc := 1) 2 (sv_d k_Rs_add 1 rfl) cf6 (by decide) w329 kd88 (ss_lt (by decide)) (lr_88_2 E _) ?_
  refine sv_aload_n (pc := 4) 0 (sv_d k_Rs_add 2 rfl) rfl rfl ?_
  refine sv_getf (pc := 5) 4 (sv_d k_Rs_add 3 rfl) cf6 (by decide) w331 kd88 (ss_lt (by decide)) rfl ?_
  refine ss_aaldT (pc := 8) (n := 60) (b := 91) (sv_d k_Rs_add 4 rfl) kd89 (by decide) (by decide) rfl (ss_lt (by decide)) rfl ss_row89 (by decide) (fun _ => rfl) (fun bb1 => ?_)
  refine sv_astore (pc := 9) (lv' := [(8, sv_r E (91 + (s.1 88 4).toNatClampNeg)), (0, sv_r E 88), (1, .int x1), (2, .int x2), (3, .int x3), (4, .int x4), (5, .int x5), (6, .int x6), (7, .int x7)]) (sv_d k_Rs_add 5 rfl) (by decide) rfl ?_
  refine sv_aload (pc := 11) 0 (sv_d k_Rs_add 6 rfl) rfl ?_
  refine sv_aload_n (pc := 13) 1 (sv_d k_Rs_add 7 rfl) rfl rfl ?_
  refine sv_getf (pc := 14) 4 (sv_d k_Rs_add 8 rfl) cf6 (by decide) w331 kd88 (ss_lt (by decide)) rfl ?_
  refine ss_putN (pc := 17) 0 (sv_d k_Rs_add 9 rfl) cf5 (by decide) rfl w260 (ss_kr89 _ bb1) (ss_ltr (by decide : 91 + 60 ≤ 243) bb1) rfl rfl (fun _ => rfl) (ss_lets (fun s2 e_s2 => ?_))
  refine sv_aload (pc := 20) 0 (sv_d k_Rs_add 10 rfl) rfl ?_
  refine sv_iload_n (pc := 22) 2 (sv_d k_Rs_add 11 rfl) rfl rfl ?_
  refine ss_putN (pc := 23) 1 (sv_d k_Rs_add 12 rfl) cf5 (by decide) rfl w262 (ss_kr89 _ bb1) (ss_ltr (by decide : 91 + 60 ≤ 243) bb1) rfl rfl (fun _ => rfl) (ss_lets (fun s3 e_s3 => ?_))
  refine sv_aload (pc := 26) 0 (sv_d k_Rs_add 13 rfl) rfl ?_
  refine sv_iload_n (pc := 28) 3 (sv_d k_Rs_add 14 rfl) rfl rfl ?_
  refine ss_putN (pc := 29) 2 (sv_d k_Rs_add 15 rfl) cf5 (by decide) rfl w266 (ss_kr89 _ bb1) (ss_ltr (by decide : 91 + 60 ≤ 243) bb1) rfl rfl (fun _ => rfl) (ss_lets (fun s4 e_s4 => ?_))
  refine sv_aload (pc := 32) 0 (sv_d k_Rs_add 16 rfl) rfl ?_
  refine sv_iload_n (pc := 34) 4 (sv_d k_Rs_add 17 rfl) rfl rfl ?_
  refine ss_putN (pc := 35) 3 (sv_d k_Rs_add 18 rfl) cf5 (by decide) rfl w272 (ss_kr89 _ bb1) (ss_ltr (by decide : 91 + 60 ≤ 243) bb1) rfl rfl (fun _ => rfl) (ss_lets (fun s5 e_s5 => ?_))
  refine sv_aload (pc := 38) 0 (sv_d k_Rs_add 19 rfl) rfl ?_
  refine sv_iload (pc := 40) 5 (sv_d k_Rs_add 20 rfl) rfl ?_
  refine ss_putN (pc := 42) 4 (sv_d k_Rs_add 21 rfl) cf5 (by decide) rfl w277 (ss_kr89 _ bb1) (ss_ltr (by decide : 91 + 60 ≤ 243) bb1) rfl rfl (fun _ => rfl) (ss_lets (fun s6 e_s6 => ?_))
  refine sv_aload (pc := 45) 0 (sv_d k_Rs_add 22 rfl) rfl ?_
  refine sv_iload (pc := 47) 6 (sv_d k_Rs_add 23 rfl) rfl ?_
  refine ss_putN (pc := 49) 5 (sv_d k_Rs_add 24 rfl) cf5 (by decide) rfl w283 (ss_kr89 _ bb1) (ss_ltr (by decide : 91 + 60 ≤ 243) bb1) rfl rfl (fun _ => rfl) (ss_lets (fun s7 e_s7 => ?_))
  refine sv_aload (pc := 52) 0 (sv_d k_Rs_add 25 rfl) rfl ?_
  refine sv_iload (pc := 54) 7 (sv_d k_Rs_add 26 rfl) rfl ?_
  refine ss_putN (pc := 56) 6 (sv_d k_Rs_add 27 rfl) cf5 (by decide) rfl w287 (ss_kr89 _ bb1) (ss_ltr (by decide : 91 + 60 ≤ 243) bb1) rfl rfl (fun _ => rfl) (ss_lets (fun s8 e_s8 => ?_))
  refine sv_aload (pc := 59) 0 (sv_d k_Rs_add 28 rfl) rfl ?_
  refine sv_iload (pc := 61) 8 (sv_d k_Rs_add 29 rfl) rfl ?_
  refine ss_putN (pc := 63) 7 (sv_d k_Rs_add 30 rfl) cf5 (by decide) rfl w290 (ss_kr89 _ bb1) (ss_ltr (by decide : 91 + 60 ≤ 243) bb1) rfl rfl (fun _ => rfl) (ss_lets (fun s9 e_s9 => ?_))
  refine sv_aload (pc := 66) 0 (sv_d k_Rs_add 31 rfl) rfl ?_
  refine sv_iconst (pc := 68) (v := (-1 : Int32)) (sv_d k_Rs_add 32 rfl) (by decide) ?_
  refine ss_putN (pc := 69) 8 (sv_d k_Rs_add 33 rfl) cf5 (by decide) rfl w292 (ss_kr89 _ bb1) (ss_ltr (by decide : 91 + 60 ≤ 243) bb1) rfl rfl (fun _ => rfl) (ss_lets (fun s10 e_s10 => ?_))
  refine sv_aload (pc := 72) 0 (sv_d k_Rs_add 34 rfl) rfl ?_
  refine sv_iconst (pc := 74) (v := (1 : Int32)) (sv_d k_Rs_add 35 rfl) (by decide) ?_
  refine ss_putN (pc := 75) 9 (sv_d k_Rs_add 36 rfl) cf5 (by decide) rfl w293 (ss_kr89 _ bb1) (ss_ltr (by decide : 91 + 60 ≤ 243) bb1) rfl rfl (fun _ => rfl) (ss_lets (fun s11 e_s11 => ?_))
  refine sv_aload (pc := 78) 0 (sv_d k_Rs_add 37 rfl) rfl ?_
  refine sv_iconst (pc := 80) (v := (-1 : Int32)) (sv_d k_Rs_add 38 rfl) (by decide) ?_
  refine ss_putN (pc := 81) 10 (sv_d k_Rs_add 39 rfl) cf5 (by decide) rfl w296 (ss_kr89 _ bb1) (ss_ltr (by decide : 91 + 60 ≤ 243) bb1) rfl rfl (fun _ => rfl) (ss_lets (fun s12 e_s12 => ?_))
  refine sv_aload_n (pc := 84) 1 (sv_d k_Rs_add 40 rfl) rfl rfl ?_
  refine sv_dup (pc := 85) (sv_d k_Rs_add 41 rfl) rfl ?_
  refine sv_getf (pc := 86) 4 (sv_d k_Rs_add 42 rfl) cf6 (by decide) w331 kd88 (ss_lt (by decide)) rfl ?_
  refine sv_dup_x1 (pc := 89) (sv_d k_Rs_add 43 rfl) rfl rfl ?_
  refine sv_iconst (pc := 90) (v := (1 : Int32)) (sv_d k_Rs_add 44 rfl) (by decide) ?_
  refine sv_iadd (pc := 91) (sv_d k_Rs_add 45 rfl) ?_
  refine ss_putI (pc := 92) 4 (sv_d k_Rs_add 46 rfl) cf6 (by decide) rfl w331 kd88 (ss_lt (by decide)) rfl rfl (fun _ => rfl) (ss_lets (fun s13 e_s13 => ?_))
  exact sv_ret (pc := 95) (sv_d k_Rs_add 47 rfl) ⟨_, rfl, rfl⟩ rfl
/-! Rs_classOf -/
abbrev m_Rs_classOf : sv_M := (yX6_classOf, cX6_classOf, 3, (some .int))
def t_Rs_classOf : List (Nat × Instr × Nat) := [(0, .aload_n 1, 1), (1, .getfield 37, 3), (4, .iconst 2, 1), (5, .if_icmp .ne 25, 3), (8, .aload_n 0, 1), (9, .getfield 25, 3), (12, .aload_n 1, 1), (13, .getfield 40, 3), (16, .iload_n 2, 1), (17, .bipush 20, 2), (19, .aload_n 1, 1), (20, .getfield 52, 3), (23, .iadd, 1), (24, .invokevirtual 67, 3), (27, .goto 7, 3), (30, .aload_n 1, 1), (31, .getfield 52, 3), (34, .ireturn, 1)]
theorem k_Rs_classOf : sv_tk m_Rs_classOf.2.1 t_Rs_classOf := by decide +kernel
theorem g_Rs_classOf : sv_G m_Rs_classOf 2 := ⟨by decide +kernel, sv_in 857 (by decide +kernel) rfl, sv_in 96 (by decide +kernel) rfl, ⟨by decide, by decide⟩, by decide +kernel, by decide⟩
theorem in_Rs_classOf : Cond.instanceMethod m_Rs_classOf.1 ∈ sv_T := sv_in 855 (by decide +kernel) rfl
theorem se_Rs_classOf : Cond.selects m_Rs_classOf.1.cls m_Rs_classOf.1 m_Rs_classOf.1 ∈ sv_T := sv_in 856 (by decide +kernel) rfl
def F_Rs_classOf (a1 : Nat) (x2 : Int32) (s : sv_S) : Option (Int32 × sv_S) :=
  if (s.1 a1 1) = (2 : Int32) then
    (F_Ls_value (s.1 a1 2) x2 ((20 : Int32) + (s.1 a1 6)) s).bind fun r1 =>
    some (r1.1, r1.2)
  else
  some (s.1 a1 6, s)
theorem V_Rs_classOf (E : sv_E) (d : Nat) (a1 : Nat) (x2 : Int32) (s : sv_S) (h_a1 : ss_K a1 = 5) (o_a1 : 64 ≤ a1) (l_a1 : a1 < 243 + s.2.2.2.2.1) : sv_V E m_Rs_classOf (d + 2) ss_i 0 (lv_args 0 [sv_r E 88, sv_r E a1, .int x2]) [] (ss_e s) (F_Rs_classOf a1 x2 s) := by
  show sv_V E m_Rs_classOf (d + 2) ss_i 0 [(0, sv_r E 88), (1, sv_r E a1), (2, .int x2)] [] (ss_e s) _
  unfold F_Rs_classOf
  refine sv_aload_n (pc := 0) 1 (sv_d k_Rs_classOf 0 rfl) rfl rfl ?_
  refine sv_getN (pc := 1) 1 (sv_d k_Rs_classOf 1 rfl) cf5 (by decide) w262 h_a1 l_a1 rfl ?_
  refine sv_iconst (pc := 4) (v := (2 : Int32)) (sv_d k_Rs_classOf 2 rfl) (by decide) ?_
  refine sv_icmp_ne (pc := 5) (tgt := 30) (sv_d k_Rs_classOf 3 rfl) (by decide) ?_ ?_
  · refine sv_aload_n (pc := 30) 1 (sv_d k_Rs_classOf 15 rfl) rfl rfl ?_
    refine sv_getN (pc := 31) 6 (sv_d k_Rs_classOf 16 rfl) cf5 (by decide) w287 h_a1 l_a1 rfl ?_
    exact sv_ret (pc := 34) (sv_d k_Rs_classOf 17 rfl) ⟨_, rfl, rfl⟩ rfl
  · refine sv_aload_n (pc := 8) 0 (sv_d k_Rs_classOf 4 rfl) rfl rfl ?_
    refine sv_getf (pc := 9) 1 (sv_d k_Rs_classOf 5 rfl) cf6 (by decide) w328 kd88 (ss_lt (by decide)) (lr_88_1 E _) ?_
    refine sv_aload_n (pc := 12) 1 (sv_d k_Rs_classOf 6 rfl) rfl rfl ?_
    refine sv_getN (pc := 13) 2 (sv_d k_Rs_classOf 7 rfl) cf5 (by decide) w266 h_a1 l_a1 rfl ?_
    refine sv_iload_n (pc := 16) 2 (sv_d k_Rs_classOf 8 rfl) rfl rfl ?_
    refine sv_bipush (pc := 17) (v := (20 : Int32)) (sv_d k_Rs_classOf 9 rfl) (by decide) ?_
    refine sv_aload_n (pc := 19) 1 (sv_d k_Rs_classOf 10 rfl) rfl rfl ?_
    refine sv_getN (pc := 20) 6 (sv_d k_Rs_classOf 11 rfl) cf5 (by decide) w287 h_a1 l_a1 rfl ?_
    refine sv_iadd (pc := 23) (sv_d k_Rs_classOf 12 rfl) ?_
    refine sv_callV (pc := 24) (ψ := ss_i) (As := [.int (s.1 a1 2), .int x2, .int ((20 : Int32) + (s.1 a1 6))]) (rest := []) (c := 81) (sv_d k_Rs_classOf 13 rfl) g_Ls_value w858 in_Ls_value se_Ls_value cf4 kd81 (ss_lt (by decide)) rfl (Nat.le_of_ble_eq_true rfl) (V_Ls_value E (d + 0) (s.1 a1 2) x2 ((20 : Int32) + (s.1 a1 6)) s) (Nat.le_of_ble_eq_true rfl) rfl (fun r1 => ?_)
    show sv_V E _ _ _ 27 _ [.int r1.1] (ss_e r1.2) _
    refine sv_goto (pc := 27) (tgt := 34) (sv_d k_Rs_classOf 14 rfl) (by decide) ?_
    exact sv_ret (pc := 34) (sv_d k_Rs_classOf 17 rfl) ⟨_, rfl, rfl⟩ rfl
/-! Rs_perTon -/
abbrev m_Rs_perTon : sv_M := (yX6_perTon, cX6_perTon, 4, (some .int))
def t_Rs_perTon : List (Nat × Instr × Nat) := [(0, .aload_n 1, 1), (1, .getfield 37, 3), (4, .iconst 3, 1), (5, .if_icmp .eq 5, 3), (8, .iload_n 2, 1), (9, .ireturn, 1), (10, .aload_n 0, 1), (11, .getfield 21, 3), (14, .aload_n 1, 1), (15, .getfield 40, 3), (18, .aload_n 1, 1), (19, .getfield 43, 3), (22, .aload_n 1, 1), (23, .getfield 46, 3), (26, .invokevirtual 73, 3), (29, .istore_n 3, 1), (30, .iload_n 3, 1), (31, .ifCond .ge 7, 3), (34, .iconst (-1), 1), (35, .goto 9, 3), (38, .iload_n 3, 1), (39, .iload_n 2, 1), (40, .imul, 1), (41, .bipush 10, 2), (43, .idiv, 1), (44, .ireturn, 1)]
theorem k_Rs_perTon : sv_tk m_Rs_perTon.2.1 t_Rs_perTon := by decide +kernel
theorem g_Rs_perTon : sv_G m_Rs_perTon 2 := ⟨by decide +kernel, sv_in 895 (by decide +kernel) rfl, sv_in 96 (by decide +kernel) rfl, ⟨by decide, by decide⟩, by decide +kernel, by decide⟩
theorem in_Rs_perTon : Cond.instanceMethod m_Rs_perTon.1 ∈ sv_T := sv_in 894 (by decide +kernel) rfl
theorem se_Rs_perTon : Cond.selects m_Rs_perTon.1.cls m_Rs_perTon.1 m_Rs_perTon.1 ∈ sv_T := sv_in 16 (by decide +kernel) rfl
def F_Rs_perTon (a1 : Nat) (x2 : Int32) (s : sv_S) : Option (Int32) :=
  if (s.1 a1 1) = (3 : Int32) then
    (F_Ro_between (s.1 a1 2) (s.1 a1 3) (s.1 a1 4) s).bind fun r1 =>
    if 0 ≤ r1 then
      some ((r1 * x2) / (10 : Int32))
    else
    some (-1 : Int32)
  else
  some x2
theorem V_Rs_perTon (E : sv_E) (d : Nat) (a1 : Nat) (x2 : Int32) (s : sv_S) (h_a1 : ss_K a1 = 5) (o_a1 : 64 ≤ a1) (l_a1 : a1 < 243 + s.2.2.2.2.1) : sv_V E m_Rs_perTon (d + 1) (ss_pi s) 0 (lv_args 0 [sv_r E 88, sv_r E a1, .int x2]) [] (ss_e s) (F_Rs_perTon a1 x2 s) := by
  show sv_V E m_Rs_perTon (d + 1) (ss_pi s) 0 [(0, sv_r E 88), (1, sv_r E a1), (2, .int x2)] [] (ss_e s) _
  unfold F_Rs_perTon
  refine sv_aload_n (pc := 0) 1 (sv_d k_Rs_perTon 0 rfl) rfl rfl ?_
  refine sv_getN (pc := 1) 1 (sv_d k_Rs_perTon 1 rfl) cf5 (by decide) w262 h_a1 l_a1 rfl ?_
  refine sv_iconst (pc := 4) (v := (3 : Int32)) (sv_d k_Rs_perTon 2 rfl) (by decide) ?_
  refine sv_icmp_eq (pc := 5) (tgt := 10) (sv_d k_Rs_perTon 3 rfl) (by decide) ?_ ?_
  · refine sv_aload_n (pc := 10) 0 (sv_d k_Rs_perTon 6 rfl) rfl rfl ?_
    refine sv_getf (pc := 11) 0 (sv_d k_Rs_perTon 7 rfl) cf6 (by decide) w327 kd88 (ss_lt (by decide)) (lr_88_0 E _) ?_
    refine sv_aload_n (pc := 14) 1 (sv_d k_Rs_perTon 8 rfl) rfl rfl ?_
    refine sv_getN (pc := 15) 2 (sv_d k_Rs_perTon 9 rfl) cf5 (by decide) w266 h_a1 l_a1 rfl ?_
    refine sv_aload_n (pc := 18) 1 (sv_d k_Rs_perTon 10 rfl) rfl rfl ?_
    refine sv_getN (pc := 19) 3 (sv_d k_Rs_perTon 11 rfl) cf5 (by decide) w272 h_a1 l_a1 rfl ?_
    refine sv_aload_n (pc := 22) 1 (sv_d k_Rs_perTon 12 rfl) rfl rfl ?_
    refine sv_getN (pc := 23) 4 (sv_d k_Rs_perTon 13 rfl) cf5 (by decide) w277 h_a1 l_a1 rfl ?_
    refine sv_callV (pc := 26) (ψ := (ss_pi s)) (As := [.int (s.1 a1 2), .int (s.1 a1 3), .int (s.1 a1 4)]) (rest := []) (c := 65) (sv_d k_Rs_perTon 14 rfl) g_Ro_between w896 in_Ro_between se_Ro_between cf7 kd65 (ss_lt (by decide)) rfl (Nat.le_of_ble_eq_true rfl) (V_Ro_between E (d + 0) (s.1 a1 2) (s.1 a1 3) (s.1 a1 4) s) (Nat.le_of_ble_eq_true rfl) rfl (fun r1 => ?_)
    show sv_V E _ _ _ 29 _ [.int r1] (ss_e s) _
    refine sv_istore_n (pc := 29) (lv' := [(3, .int r1), (0, sv_r E 88), (1, sv_r E a1), (2, .int x2)]) (sv_d k_Rs_perTon 15 rfl) rfl (by decide) rfl ?_
    refine sv_iload_n (pc := 30) 0 (sv_d k_Rs_perTon 16 rfl) rfl rfl ?_
    refine sv_if_ge (pc := 31) (tgt := 38) (sv_d k_Rs_perTon 17 rfl) (by decide) ?_ ?_
    · refine sv_iload_n (pc := 38) 0 (sv_d k_Rs_perTon 20 rfl) rfl rfl ?_
      refine sv_iload_n (pc := 39) 3 (sv_d k_Rs_perTon 21 rfl) rfl rfl ?_
      refine sv_imul (pc := 40) (sv_d k_Rs_perTon 22 rfl) ?_
      refine sv_bipush (pc := 41) (v := (10 : Int32)) (sv_d k_Rs_perTon 23 rfl) (by decide) ?_
      refine sv_idivK (pc := 43) (sv_d k_Rs_perTon 24 rfl) (by decide) ?_
      exact sv_ret (pc := 44) (sv_d k_Rs_perTon 25 rfl) ⟨_, rfl, rfl⟩ rfl
    · refine sv_iconst (pc := 34) (v := (-1 : Int32)) (sv_d k_Rs_perTon 18 rfl) (by decide) ?_
      refine sv_goto (pc := 35) (tgt := 44) (sv_d k_Rs_perTon 19 rfl) (by decide) ?_
      exact sv_ret (pc := 44) (sv_d k_Rs_perTon 25 rfl) ⟨_, rfl, rfl⟩ rfl
  · refine sv_iload_n (pc := 8) 2 (sv_d k_Rs_perTon 4 rfl) rfl rfl ?_
    exact sv_ret (pc := 9) (sv_d k_Rs_perTon 5 rfl) ⟨_, rfl, rfl⟩ rfl
/-! Rs_fee -/
abbrev m_Rs_fee : sv_M := (yX6_fee, cX6_fee, 9, (some .int))
def t_Rs_fee : List (Nat × Instr × Nat) := [(0, .aload_n 1, 1), (1, .iload 5, 2), (3, .invokevirtual 78, 3), (6, .ifCond .eq 12, 3), (9, .iload 4, 2), (11, .aload_n 1, 1), (12, .getfield 61, 3), (15, .if_icmp .ge 5, 3), (18, .iconst (-1), 1), (19, .ireturn, 1), (20, .aload_n 1, 1), (21, .getfield 37, 3), (24, .iconst 2, 1), (25, .if_icmp .ne 7, 3), (28, .iload_n 3, 1), (29, .goto 20, 3), (32, .aload_n 0, 1), (33, .getfield 25, 3), (36, .aload_n 1, 1), (37, .getfield 40, 3), (40, .iload 5, 2), (42, .bipush 20, 2), (44, .iload_n 3, 1), (45, .iadd, 1), (46, .invokevirtual 67, 3), (49, .istore 6, 2), (51, .aload_n 0, 1), (52, .aload_n 1, 1), (53, .iload_n 2, 1), (54, .invokevirtual 82, 3), (57, .istore 7, 2), (59, .aload_n 1, 1), (60, .getfield 52, 3), (63, .iload 6, 2), (65, .if_icmp .ne 8, 3), (68, .iload 7, 2), (70, .ifCond .ge 5, 3), (73, .iconst (-1), 1), (74, .ireturn, 1), (75, .aload_n 0, 1), (76, .getfield 25, 3), (79, .aload_n 1, 1), (80, .getfield 40, 3), (83, .iload 5, 2), (85, .iconst 2, 1), (86, .invokevirtual 67, 3), (89, .bipush 99, 2), (91, .invokestatic 86, 3), (94, .istore 8, 2), (96, .iload 4, 2), (98, .iload 8, 2), (100, .invokestatic 92, 3), (103, .iload 7, 2), (105, .aload_n 0, 1), (106, .getfield 25, 3), (109, .aload_n 1, 1), (110, .getfield 40, 3), (113, .iload 5, 2), (115, .iconst 1, 1), (116, .invokevirtual 67, 3), (119, .iadd, 1), (120, .imul, 1), (121, .ireturn, 1)]
theorem k_Rs_fee : sv_tk m_Rs_fee.2.1 t_Rs_fee := by decide +kernel
theorem g_Rs_fee : sv_G m_Rs_fee 5 := ⟨by decide +kernel, sv_in 887 (by decide +kernel) rfl, sv_in 96 (by decide +kernel) rfl, ⟨by decide, by decide⟩, by decide +kernel, by decide⟩
theorem in_Rs_fee : Cond.instanceMethod m_Rs_fee.1 ∈ sv_T := sv_in 885 (by decide +kernel) rfl
theorem se_Rs_fee : Cond.selects m_Rs_fee.1.cls m_Rs_fee.1 m_Rs_fee.1 ∈ sv_T := sv_in 886 (by decide +kernel) rfl
def F_Rs_fee_b49 (a1 : Nat) (x2 : Int32) (x4 : Int32) (x5 : Int32) (t0 : Int32) (s : sv_S) : Option (Int32 × sv_S) :=
  (F_Rs_perTon a1 x2 s).bind fun r3 =>
  if (s.1 a1 6) = t0 then
    if 0 ≤ r3 then
      (F_Ls_value (s.1 a1 2) x5 (2 : Int32) s).bind fun r4 =>
      (F_JM_min r4.1 (99 : Int32) r4.2).bind fun r5 =>
      (F_JM_max x4 r5 r4.2).bind fun r6 =>
      (F_Ls_value (r4.2.1 a1 2) x5 (1 : Int32) r4.2).bind fun r7 =>
      some (r6 * (r3 + r7.1), r7.2)
    else
    some ((-1 : Int32), s)
  else
  some ((-1 : Int32), s)
theorem V_Rs_fee_b49 (E : sv_E) (d : Nat) (a1 : Nat) (x2 : Int32) (x4 : Int32) (x5 : Int32) (t0 : Int32) (s : sv_S) (h_a1 : ss_K a1 = 5) (o_a1 : 64 ≤ a1) (l_a1 : a1 < 243 + s.2.2.2.2.1) : sv_V E m_Rs_fee (d + 2) ss_i 49 [(0, sv_r E 88), (1, sv_r E a1), (2, .int x2), (4, .int x4), (5, .int x5)] [.int t0] (ss_e s) (F_Rs_fee_b49 a1 x2 x4 x5 t0 s) := by
  unfold F_Rs_fee_b49
  refine sv_istore (pc := 49) (lv' := [(6, .int t0), (0, sv_r E 88), (1, sv_r E a1), (2, .int x2), (4, .int x4), (5, .int x5)]) (sv_d k_Rs_fee 25 rfl) (by decide) rfl ?_
  refine sv_aload_n (pc := 51) 1 (sv_d k_Rs_fee 26 rfl) rfl rfl ?_
  refine sv_aload_n (pc := 52) 2 (sv_d k_Rs_fee 27 rfl) rfl rfl ?_
  refine sv_iload_n (pc := 53) 3 (sv_d k_Rs_fee 28 rfl) rfl rfl ?_
  refine sv_callV (pc := 54) (ψ := (ss_pi s)) (As := [sv_r E a1, .int x2]) (rest := []) (c := 88) (sv_d k_Rs_fee 29 rfl) g_Rs_perTon w892 in_Rs_perTon se_Rs_perTon cf6 kd88 (ss_lt (by decide)) rfl (Nat.le_of_ble_eq_true rfl) (V_Rs_perTon E (d + 0) a1 x2 s h_a1 o_a1 l_a1) (Nat.le_of_ble_eq_true rfl) rfl (fun r3 => ?_)
  show sv_V E _ _ _ 57 _ [.int r3] (ss_e s) _
  refine sv_istore (pc := 57) (lv' := [(7, .int r3), (6, .int t0), (0, sv_r E 88), (1, sv_r E a1), (2, .int x2), (4, .int x4), (5, .int x5)]) (sv_d k_Rs_fee 30 rfl) (by decide) rfl ?_
  refine sv_aload_n (pc := 59) 3 (sv_d k_Rs_fee 31 rfl) rfl rfl ?_
  refine sv_getN (pc := 60) 6 (sv_d k_Rs_fee 32 rfl) cf5 (by decide) w287 h_a1 l_a1 rfl ?_
  refine sv_iload (pc := 63) 1 (sv_d k_Rs_fee 33 rfl) rfl ?_
  refine sv_icmp_ne (pc := 65) (tgt := 73) (sv_d k_Rs_fee 34 rfl) (by decide) ?_ ?_
  · refine sv_iconst (pc := 73) (v := (-1 : Int32)) (sv_d k_Rs_fee 37 rfl) (by decide) ?_
    exact sv_ret (pc := 74) (sv_d k_Rs_fee 38 rfl) ⟨_, rfl, rfl⟩ rfl
  · refine sv_iload (pc := 68) 0 (sv_d k_Rs_fee 35 rfl) rfl ?_
    refine sv_if_ge (pc := 70) (tgt := 75) (sv_d k_Rs_fee 36 rfl) (by decide) ?_ ?_
    · refine sv_aload_n (pc := 75) 2 (sv_d k_Rs_fee 39 rfl) rfl rfl ?_
      refine sv_getf (pc := 76) 1 (sv_d k_Rs_fee 40 rfl) cf6 (by decide) w328 kd88 (ss_lt (by decide)) (lr_88_1 E _) ?_
      refine sv_aload_n (pc := 79) 3 (sv_d k_Rs_fee 41 rfl) rfl rfl ?_
      refine sv_getN (pc := 80) 2 (sv_d k_Rs_fee 42 rfl) cf5 (by decide) w266 h_a1 l_a1 rfl ?_
      refine sv_iload (pc := 83) 6 (sv_d k_Rs_fee 43 rfl) rfl ?_
      refine sv_iconst (pc := 85) (v := (2 : Int32)) (sv_d k_Rs_fee 44 rfl) (by decide) ?_
      refine sv_callV (pc := 86) (ψ := ss_i) (As := [.int (s.1 a1 2), .int x5, .int (2 : Int32)]) (rest := []) (c := 81) (sv_d k_Rs_fee 45 rfl) g_Ls_value w858 in_Ls_value se_Ls_value cf4 kd81 (ss_lt (by decide)) rfl (Nat.le_of_ble_eq_true rfl) (V_Ls_value E (d + 0) (s.1 a1 2) x5 (2 : Int32) s) (Nat.le_of_ble_eq_true rfl) rfl (fun r4 => ?_)
      show sv_V E _ _ _ 89 _ [.int r4.1] (ss_e r4.2) _
      refine sv_bipush (pc := 89) (v := (99 : Int32)) (sv_d k_Rs_fee 46 rfl) (by decide) ?_
      refine sv_callS (pc := 91) (ψ := (ss_pi r4.2)) (As := [.int r4.1, .int (99 : Int32)]) (rest := []) (sv_d k_Rs_fee 47 rfl) g_JM_min w897 st_JM_min rfl (Nat.le_of_ble_eq_true rfl) (V_JM_min E (d + 1) r4.1 (99 : Int32) r4.2) (Nat.le_of_ble_eq_true rfl) rfl (fun r5 => ?_)
      show sv_V E _ _ _ 94 _ [.int r5] (ss_e r4.2) _
      refine sv_istore (pc := 94) (lv' := [(8, .int r5), (7, .int r3), (6, .int t0), (0, sv_r E 88), (1, sv_r E a1), (2, .int x2), (4, .int x4), (5, .int x5)]) (sv_d k_Rs_fee 48 rfl) (by decide) rfl ?_
      refine sv_iload (pc := 96) 6 (sv_d k_Rs_fee 49 rfl) rfl ?_
      refine sv_iload (pc := 98) 0 (sv_d k_Rs_fee 50 rfl) rfl ?_
      refine sv_callS (pc := 100) (ψ := (ss_pi r4.2)) (As := [.int x4, .int r5]) (rest := []) (sv_d k_Rs_fee 51 rfl) g_JM_max w898 st_JM_max rfl (Nat.le_of_ble_eq_true rfl) (V_JM_max E (d + 1) x4 r5 r4.2) (Nat.le_of_ble_eq_true rfl) rfl (fun r6 => ?_)
      show sv_V E _ _ _ 103 _ [.int r6] (ss_e r4.2) _
      refine sv_iload (pc := 103) 1 (sv_d k_Rs_fee 52 rfl) rfl ?_
      refine sv_aload_n (pc := 105) 3 (sv_d k_Rs_fee 53 rfl) rfl rfl ?_
      refine sv_getf (pc := 106) 1 (sv_d k_Rs_fee 54 rfl) cf6 (by decide) w328 kd88 (ss_lt (by decide)) (lr_88_1 E _) ?_
      refine sv_aload_n (pc := 109) 4 (sv_d k_Rs_fee 55 rfl) rfl rfl ?_
      refine sv_getN (pc := 110) 2 (sv_d k_Rs_fee 56 rfl) cf5 (by decide) w266 h_a1 (ss_l5 h_a1) rfl ?_
      refine sv_iload (pc := 113) 7 (sv_d k_Rs_fee 57 rfl) rfl ?_
      refine sv_iconst (pc := 115) (v := (1 : Int32)) (sv_d k_Rs_fee 58 rfl) (by decide) ?_
      refine sv_callV (pc := 116) (ψ := ss_i) (As := [.int (r4.2.1 a1 2), .int x5, .int (1 : Int32)]) (rest := [.int r3, .int r6]) (c := 81) (sv_d k_Rs_fee 59 rfl) g_Ls_value w858 in_Ls_value se_Ls_value cf4 kd81 (ss_lt (by decide)) rfl (Nat.le_of_ble_eq_true rfl) (V_Ls_value E (d + 0) (r4.2.1 a1 2) x5 (1 : Int32) r4.2) (Nat.le_of_ble_eq_true rfl) rfl (fun r7 => ?_)
      show sv_V E _ _ _ 119 _ [.int r7.1, .int r3, .int r6] (ss_e r7.2) _
      refine sv_iadd (pc := 119) (sv_d k_Rs_fee 60 rfl) ?_
      refine sv_imul (pc := 120) (sv_d k_Rs_fee 61 rfl) ?_
      exact sv_ret (pc := 121) (sv_d k_Rs_fee 62 rfl) ⟨_, rfl, rfl⟩ rfl
    · refine sv_iconst (pc := 73) (v := (-1 : Int32)) (sv_d k_Rs_fee 37 rfl) (by decide) ?_
      exact sv_ret (pc := 74) (sv_d k_Rs_fee 38 rfl) ⟨_, rfl, rfl⟩ rfl
def F_Rs_fee (a1 : Nat) (x2 : Int32) (x3 : Int32) (x4 : Int32) (x5 : Int32) (s : sv_S) : Option (Int32 × sv_S) :=
  (F_Ra_isPrinted a1 x5 s).bind fun r1 =>
  if r1 = 0 then
    some ((-1 : Int32), s)
  else
  if (s.1 a1 9) ≤ x4 then
    if (s.1 a1 1) = (2 : Int32) then
      F_Rs_fee_b49 a1 x2 x4 x5 x3 s
    else
    (F_Ls_value (s.1 a1 2) x5 ((20 : Int32) + x3) s).bind fun r2 =>
    F_Rs_fee_b49 a1 x2 x4 x5 r2.1 r2.2
  else
  some ((-1 : Int32), s)
theorem V_Rs_fee (E : sv_E) (d : Nat) (a1 : Nat) (x2 : Int32) (x3 : Int32) (x4 : Int32) (x5 : Int32) (s : sv_S) (h_a1 : ss_K a1 = 5) (o_a1 : 64 ≤ a1) (l_a1 : a1 < 243 + s.2.2.2.2.1) : sv_V E m_Rs_fee (d + 2) ss_i 0 (lv_args 0 [sv_r E 88, sv_r E a1, .int x2, .int x3, .int x4, .int x5]) [] (ss_e s) (F_Rs_fee a1 x2 x3 x4 x5 s) := by
  show sv_V E m_Rs_fee (d + 2) ss_i 0 [(0, sv_r E 88), (1, sv_r E a1), (2, .int x2), (3, .int x3), (4, .int x4), (5, .int x5)] [] (ss_e s) _
  unfold F_Rs_fee
  refine sv_aload_n (pc := 0) 1 (sv_d k_Rs_fee 0 rfl) rfl rfl ?_
  refine sv_iload (pc := 1) 5 (sv_d k_Rs_fee 1 rfl) rfl ?_
  refine sv_callV (pc := 3) (ψ := (ss_pi s)) (As := [.int x5]) (rest := []) (c := a1) (sv_d k_Rs_fee 2 rfl) g_Ra_isPrinted w888 in_Ra_isPrinted se_Ra_isPrinted cf5 h_a1 l_a1 rfl (Nat.le_of_ble_eq_true rfl) (V_Ra_isPrinted E (d + 1) a1 x5 s h_a1 o_a1 l_a1) (Nat.le_of_ble_eq_true rfl) rfl (fun r1 => ?_)
  show sv_V E _ _ _ 6 _ [.int r1] (ss_e s) _
  refine sv_if_eq (pc := 6) (tgt := 18) (sv_d k_Rs_fee 3 rfl) (by decide) ?_ ?_
  · refine sv_iconst (pc := 18) (v := (-1 : Int32)) (sv_d k_Rs_fee 8 rfl) (by decide) ?_
    exact sv_ret (pc := 19) (sv_d k_Rs_fee 9 rfl) ⟨_, rfl, rfl⟩ rfl
  · refine sv_iload (pc := 9) 4 (sv_d k_Rs_fee 4 rfl) rfl ?_
    refine sv_aload_n (pc := 11) 1 (sv_d k_Rs_fee 5 rfl) rfl rfl ?_
    refine sv_getN (pc := 12) 9 (sv_d k_Rs_fee 6 rfl) cf5 (by decide) w293 h_a1 l_a1 rfl ?_
    refine sv_icmp_ge (pc := 15) (tgt := 20) (sv_d k_Rs_fee 7 rfl) (by decide) ?_ ?_
    · refine sv_aload_n (pc := 20) 1 (sv_d k_Rs_fee 10 rfl) rfl rfl ?_
      refine sv_getN (pc := 21) 1 (sv_d k_Rs_fee 11 rfl) cf5 (by decide) w262 h_a1 l_a1 rfl ?_
      refine sv_iconst (pc := 24) (v := (2 : Int32)) (sv_d k_Rs_fee 12 rfl) (by decide) ?_
      refine sv_icmp_ne (pc := 25) (tgt := 32) (sv_d k_Rs_fee 13 rfl) (by decide) ?_ ?_
      · refine sv_aload_n (pc := 32) 0 (sv_d k_Rs_fee 16 rfl) rfl rfl ?_
        refine sv_getf (pc := 33) 1 (sv_d k_Rs_fee 17 rfl) cf6 (by decide) w328 kd88 (ss_lt (by decide)) (lr_88_1 E _) ?_
        refine sv_aload_n (pc := 36) 1 (sv_d k_Rs_fee 18 rfl) rfl rfl ?_
        refine sv_getN (pc := 37) 2 (sv_d k_Rs_fee 19 rfl) cf5 (by decide) w266 h_a1 l_a1 rfl ?_
        refine sv_iload (pc := 40) 5 (sv_d k_Rs_fee 20 rfl) rfl ?_
        refine sv_bipush (pc := 42) (v := (20 : Int32)) (sv_d k_Rs_fee 21 rfl) (by decide) ?_
        refine sv_iload_n (pc := 44) 3 (sv_d k_Rs_fee 22 rfl) rfl rfl ?_
        refine sv_iadd (pc := 45) (sv_d k_Rs_fee 23 rfl) ?_
        refine sv_callV (pc := 46) (ψ := ss_i) (As := [.int (s.1 a1 2), .int x5, .int ((20 : Int32) + x3)]) (rest := []) (c := 81) (sv_d k_Rs_fee 24 rfl) g_Ls_value w858 in_Ls_value se_Ls_value cf4 kd81 (ss_lt (by decide)) rfl (Nat.le_of_ble_eq_true rfl) (V_Ls_value E (d + 0) (s.1 a1 2) x5 ((20 : Int32) + x3) s) (Nat.le_of_ble_eq_true rfl) rfl (fun r2 => ?_)
        show sv_V E _ _ _ 49 _ [.int r2.1] (ss_e r2.2) _
        exact sv_loc [0, 1, 2, 4, 5] rfl (V_Rs_fee_b49 E d a1 x2 x4 x5 r2.1 r2.2 h_a1 o_a1 (ss_l5 h_a1))
      · refine sv_iload_n (pc := 28) 3 (sv_d k_Rs_fee 14 rfl) rfl rfl ?_
        refine sv_goto (pc := 29) (tgt := 49) (sv_d k_Rs_fee 15 rfl) (by decide) ?_
        exact sv_loc [0, 1, 2, 4, 5] rfl (V_Rs_fee_b49 E d a1 x2 x4 x5 x3 s h_a1 o_a1 l_a1)
    · refine sv_iconst (pc := 18) (v := (-1 : Int32)) (sv_d k_Rs_fee 8 rfl) (by decide) ?_
      exact sv_ret (pc := 19) (sv_d k_Rs_fee 9 rfl) ⟨_, rfl, rfl⟩ rfl
/-! Rs_ceiling -/
abbrev m_Rs_ceiling : sv_M := (yX6_ceiling, cX6_ceiling, 4, (some .int))
def t_Rs_ceiling : List (Nat × Instr × Nat) := [(0, .aload_n 0, 1), (1, .getfield 21, 3), (4, .iconst (-1), 1), (5, .aload_n 1, 1), (6, .getfield 43, 3), (9, .aload_n 1, 1), (10, .getfield 46, 3), (13, .invokevirtual 73, 3), (16, .istore_n 3, 1), (17, .iload_n 3, 1), (18, .ifCond .ge 5, 3), (21, .iconst (-1), 1), (22, .ireturn, 1), (23, .iload_n 3, 1), (24, .aload_n 0, 1), (25, .getfield 25, 3), (28, .aload_n 1, 1), (29, .getfield 40, 3), (32, .iload_n 2, 1), (33, .bipush 10, 2), (35, .aload_n 0, 1), (36, .aload_n 1, 1), (37, .iload_n 2, 1), (38, .invokevirtual 95, 3), (41, .iadd, 1), (42, .invokevirtual 67, 3), (45, .imul, 1), (46, .bipush 10, 2), (48, .idiv, 1), (49, .ireturn, 1)]
theorem k_Rs_ceiling : sv_tk m_Rs_ceiling.2.1 t_Rs_ceiling := by decide +kernel
theorem g_Rs_ceiling : sv_G m_Rs_ceiling 2 := ⟨by decide +kernel, sv_in 910 (by decide +kernel) rfl, sv_in 96 (by decide +kernel) rfl, ⟨by decide, by decide⟩, by decide +kernel, by decide⟩
theorem in_Rs_ceiling : Cond.instanceMethod m_Rs_ceiling.1 ∈ sv_T := sv_in 908 (by decide +kernel) rfl
theorem se_Rs_ceiling : Cond.selects m_Rs_ceiling.1.cls m_Rs_ceiling.1 m_Rs_ceiling.1 ∈ sv_T := sv_in 909 (by decide +kernel) rfl
def F_Rs_ceiling (a1 : Nat) (x2 : Int32) (s : sv_S) : Option (Int32 × sv_S) :=
  (F_Ro_between (-1 : Int32) (s.1 a1 3) (s.1 a1 4) s).bind fun r1 =>
  if 0 ≤ r1 then
    (F_Rs_classOf a1 x2 s).bind fun r2 =>
    (F_Ls_value (s.1 a1 2) x2 ((10 : Int32) + r2.1) r2.2).bind fun r3 =>
    some ((r1 * r3.1) / (10 : Int32), r3.2)
  else
  some ((-1 : Int32), s)
theorem V_Rs_ceiling (E : sv_E) (d : Nat) (a1 : Nat) (x2 : Int32) (s : sv_S) (h_a1 : ss_K a1 = 5) (o_a1 : 64 ≤ a1) (l_a1 : a1 < 243 + s.2.2.2.2.1) : sv_V E m_Rs_ceiling (d + 3) ss_i 0 (lv_args 0 [sv_r E 88, sv_r E a1, .int x2]) [] (ss_e s) (F_Rs_ceiling a1 x2 s) := by
  show sv_V E m_Rs_ceiling (d + 3) ss_i 0 [(0, sv_r E 88), (1, sv_r E a1), (2, .int x2)] [] (ss_e s) _
  unfold F_Rs_ceiling
  refine sv_aload_n (pc := 0) 0 (sv_d k_Rs_ceiling 0 rfl) rfl rfl ?_
  refine sv_getf (pc := 1) 0 (sv_d k_Rs_ceiling 1 rfl) cf6 (by decide) w327 kd88 (ss_lt (by decide)) (lr_88_0 E _) ?_
  refine sv_iconst (pc := 4) (v := (-1 : Int32)) (sv_d k_Rs_ceiling 2 rfl) (by decide) ?_
  refine sv_aload_n (pc := 5) 1 (sv_d k_Rs_ceiling 3 rfl) rfl rfl ?_
  refine sv_getN (pc := 6) 3 (sv_d k_Rs_ceiling 4 rfl) cf5 (by decide) w272 h_a1 l_a1 rfl ?_
  refine sv_aload_n (pc := 9) 1 (sv_d k_Rs_ceiling 5 rfl) rfl rfl ?_
  refine sv_getN (pc := 10) 4 (sv_d k_Rs_ceiling 6 rfl) cf5 (by decide) w277 h_a1 l_a1 rfl ?_
  refine sv_callV (pc := 13) (ψ := (ss_pi s)) (As := [.int (-1 : Int32), .int (s.1 a1 3), .int (s.1 a1 4)]) (rest := []) (c := 65) (sv_d k_Rs_ceiling 7 rfl) g_Ro_between w896 in_Ro_between se_Ro_between cf7 kd65 (ss_lt (by decide)) rfl (Nat.le_of_ble_eq_true rfl) (V_Ro_between E (d + 2) (-1 : Int32) (s.1 a1 3) (s.1 a1 4) s) (Nat.le_of_ble_eq_true rfl) rfl (fun r1 => ?_)
  show sv_V E _ _ _ 16 _ [.int r1] (ss_e s) _
  refine sv_istore_n (pc := 16) (lv' := [(3, .int r1), (0, sv_r E 88), (1, sv_r E a1), (2, .int x2)]) (sv_d k_Rs_ceiling 8 rfl) rfl (by decide) rfl ?_
  refine sv_iload_n (pc := 17) 0 (sv_d k_Rs_ceiling 9 rfl) rfl rfl ?_
  refine sv_if_ge (pc := 18) (tgt := 23) (sv_d k_Rs_ceiling 10 rfl) (by decide) ?_ ?_
  · refine sv_iload_n (pc := 23) 0 (sv_d k_Rs_ceiling 13 rfl) rfl rfl ?_
    refine sv_aload_n (pc := 24) 1 (sv_d k_Rs_ceiling 14 rfl) rfl rfl ?_
    refine sv_getf (pc := 25) 1 (sv_d k_Rs_ceiling 15 rfl) cf6 (by decide) w328 kd88 (ss_lt (by decide)) (lr_88_1 E _) ?_
    refine sv_aload_n (pc := 28) 2 (sv_d k_Rs_ceiling 16 rfl) rfl rfl ?_
    refine sv_getN (pc := 29) 2 (sv_d k_Rs_ceiling 17 rfl) cf5 (by decide) w266 h_a1 l_a1 rfl ?_
    refine sv_iload_n (pc := 32) 3 (sv_d k_Rs_ceiling 18 rfl) rfl rfl ?_
    refine sv_bipush (pc := 33) (v := (10 : Int32)) (sv_d k_Rs_ceiling 19 rfl) (by decide) ?_
    refine sv_aload_n (pc := 35) 1 (sv_d k_Rs_ceiling 20 rfl) rfl rfl ?_
    refine sv_aload_n (pc := 36) 2 (sv_d k_Rs_ceiling 21 rfl) rfl rfl ?_
    refine sv_iload_n (pc := 37) 3 (sv_d k_Rs_ceiling 22 rfl) rfl rfl ?_
    refine sv_callV (pc := 38) (ψ := ss_i) (As := [sv_r E a1, .int x2]) (rest := [.int (10 : Int32), .int x2, .int (s.1 a1 2), sv_r E 81, .int r1]) (c := 88) (sv_d k_Rs_ceiling 23 rfl) g_Rs_classOf w911 in_Rs_classOf se_Rs_classOf cf6 kd88 (ss_lt (by decide)) rfl (Nat.le_of_ble_eq_true rfl) (V_Rs_classOf E (d + 0) a1 x2 s h_a1 o_a1 l_a1) (Nat.le_of_ble_eq_true rfl) rfl (fun r2 => ?_)
    show sv_V E _ _ _ 41 _ [.int r2.1, .int (10 : Int32), .int x2, .int (s.1 a1 2), sv_r E 81, .int r1] (ss_e r2.2) _
    refine sv_iadd (pc := 41) (sv_d k_Rs_ceiling 24 rfl) ?_
    refine sv_callV (pc := 42) (ψ := ss_i) (As := [.int (s.1 a1 2), .int x2, .int ((10 : Int32) + r2.1)]) (rest := [.int r1]) (c := 81) (sv_d k_Rs_ceiling 25 rfl) g_Ls_value w858 in_Ls_value se_Ls_value cf4 kd81 (ss_lt (by decide)) rfl (Nat.le_of_ble_eq_true rfl) (V_Ls_value E (d + 1) (s.1 a1 2) x2 ((10 : Int32) + r2.1) r2.2) (Nat.le_of_ble_eq_true rfl) rfl (fun r3 => ?_)
    show sv_V E _ _ _ 45 _ [.int r3.1, .int r1] (ss_e r3.2) _
    refine sv_imul (pc := 45) (sv_d k_Rs_ceiling 26 rfl) ?_
    refine sv_bipush (pc := 46) (v := (10 : Int32)) (sv_d k_Rs_ceiling 27 rfl) (by decide) ?_
    refine sv_idivK (pc := 48) (sv_d k_Rs_ceiling 28 rfl) (by decide) ?_
    exact sv_ret (pc := 49) (sv_d k_Rs_ceiling 29 rfl) ⟨_, rfl, rfl⟩ rfl
  · refine sv_iconst (pc := 21) (v := (-1 : Int32)) (sv_d k_Rs_ceiling 11 rfl) (by decide) ?_
    exact sv_ret (pc := 22) (sv_d k_Rs_ceiling 12 rfl) ⟨_, rfl, rfl⟩ rfl
/-! Rs_over -/
abbrev m_Rs_over : sv_M := (yX6_over, cX6_over, 4, (some .int))
def t_Rs_over : List (Nat × Instr × Nat) := [(0, .aload_n 0, 1), (1, .aload_n 1, 1), (2, .iload_n 2, 1), (3, .invokevirtual 98, 3), (6, .istore_n 3, 1), (7, .iload_n 3, 1), (8, .ifCond .lt 18, 3), (11, .aload_n 1, 1), (12, .getfield 101, 3), (15, .ifCond .ne 11, 3), (18, .aload_n 1, 1), (19, .getfield 37, 3), (22, .iconst 5, 1), (23, .if_icmp .ne 5, 3), (26, .iconst 0, 1), (27, .ireturn, 1), (28, .iconst 0, 1), (29, .aload_n 0, 1), (30, .aload_n 1, 1), (31, .aload_n 1, 1), (32, .getfield 49, 3), (35, .invokevirtual 82, 3), (38, .iload_n 3, 1), (39, .isub, 1), (40, .invokestatic 92, 3), (43, .ireturn, 1)]
theorem k_Rs_over : sv_tk m_Rs_over.2.1 t_Rs_over := by decide +kernel
theorem g_Rs_over : sv_G m_Rs_over 2 := ⟨by decide +kernel, sv_in 906 (by decide +kernel) rfl, sv_in 96 (by decide +kernel) rfl, ⟨by decide, by decide⟩, by decide +kernel, by decide⟩
theorem in_Rs_over : Cond.instanceMethod m_Rs_over.1 ∈ sv_T := sv_in 904 (by decide +kernel) rfl
theorem se_Rs_over : Cond.selects m_Rs_over.1.cls m_Rs_over.1 m_Rs_over.1 ∈ sv_T := sv_in 905 (by decide +kernel) rfl
def F_Rs_over (a1 : Nat) (x2 : Int32) (s : sv_S) : Option (Int32 × sv_S) :=
  (F_Rs_ceiling a1 x2 s).bind fun r1 =>
  if r1.1 < 0 then
    some ((0 : Int32), r1.2)
  else
  if (r1.2.1 a1 11) = 0 then
    if (r1.2.1 a1 1) = (5 : Int32) then
      some ((0 : Int32), r1.2)
    else
    (F_Rs_perTon a1 (r1.2.1 a1 5) r1.2).bind fun r2 =>
    (F_JM_max (0 : Int32) (r2 - r1.1) r1.2).bind fun r3 =>
    some (r3, r1.2)
  else
  some ((0 : Int32), r1.2)
theorem V_Rs_over (E : sv_E) (d : Nat) (a1 : Nat) (x2 : Int32) (s : sv_S) (h_a1 : ss_K a1 = 5) (o_a1 : 64 ≤ a1) (l_a1 : a1 < 243 + s.2.2.2.2.1) : sv_V E m_Rs_over (d + 4) ss_i 0 (lv_args 0 [sv_r E 88, sv_r E a1, .int x2]) [] (ss_e s) (F_Rs_over a1 x2 s) := by
  show sv_V E m_Rs_over (d + 4) ss_i 0 [(0, sv_r E 88), (1, sv_r E a1), (2, .int x2)] [] (ss_e s) _
  unfold F_Rs_over
  refine sv_aload_n (pc := 0) 0 (sv_d k_Rs_over 0 rfl) rfl rfl ?_
  refine sv_aload_n (pc := 1) 1 (sv_d k_Rs_over 1 rfl) rfl rfl ?_
  refine sv_iload_n (pc := 2) 2 (sv_d k_Rs_over 2 rfl) rfl rfl ?_
  refine sv_callV (pc := 3) (ψ := ss_i) (As := [sv_r E a1, .int x2]) (rest := []) (c := 88) (sv_d k_Rs_over 3 rfl) g_Rs_ceiling w907 in_Rs_ceiling se_Rs_ceiling cf6 kd88 (ss_lt (by decide)) rfl (Nat.le_of_ble_eq_true rfl) (V_Rs_ceiling E (d + 0) a1 x2 s h_a1 o_a1 l_a1) (Nat.le_of_ble_eq_true rfl) rfl (fun r1 => ?_)
  show sv_V E _ _ _ 6 _ [.int r1.1] (ss_e r1.2) _
  refine sv_istore_n (pc := 6) (lv' := [(3, .int r1.1), (0, sv_r E 88), (1, sv_r E a1), (2, .int x2)]) (sv_d k_Rs_over 4 rfl) rfl (by decide) rfl ?_
  refine sv_iload_n (pc := 7) 0 (sv_d k_Rs_over 5 rfl) rfl rfl ?_
  refine sv_if_lt (pc := 8) (tgt := 26) (sv_d k_Rs_over 6 rfl) (by decide) ?_ ?_
  · refine sv_iconst (pc := 26) (v := (0 : Int32)) (sv_d k_Rs_over 14 rfl) (by decide) ?_
    exact sv_ret (pc := 27) (sv_d k_Rs_over 15 rfl) ⟨_, rfl, rfl⟩ rfl
  · refine sv_aload_n (pc := 11) 2 (sv_d k_Rs_over 7 rfl) rfl rfl ?_
    refine sv_getN (pc := 12) 11 (sv_d k_Rs_over 8 rfl) cf5 (by decide) w300 h_a1 (ss_l5 h_a1) rfl ?_
    refine sv_if_ne (pc := 15) (tgt := 26) (sv_d k_Rs_over 9 rfl) (by decide) ?_ ?_
    · refine sv_iconst (pc := 26) (v := (0 : Int32)) (sv_d k_Rs_over 14 rfl) (by decide) ?_
      exact sv_ret (pc := 27) (sv_d k_Rs_over 15 rfl) ⟨_, rfl, rfl⟩ rfl
    · refine sv_aload_n (pc := 18) 2 (sv_d k_Rs_over 10 rfl) rfl rfl ?_
      refine sv_getN (pc := 19) 1 (sv_d k_Rs_over 11 rfl) cf5 (by decide) w262 h_a1 (ss_l5 h_a1) rfl ?_
      refine sv_iconst (pc := 22) (v := (5 : Int32)) (sv_d k_Rs_over 12 rfl) (by decide) ?_
      refine sv_icmp_ne (pc := 23) (tgt := 28) (sv_d k_Rs_over 13 rfl) (by decide) ?_ ?_
      · refine sv_iconst (pc := 28) (v := (0 : Int32)) (sv_d k_Rs_over 16 rfl) (by decide) ?_
        refine sv_aload_n (pc := 29) 1 (sv_d k_Rs_over 17 rfl) rfl rfl ?_
        refine sv_aload_n (pc := 30) 2 (sv_d k_Rs_over 18 rfl) rfl rfl ?_
        refine sv_aload_n (pc := 31) 2 (sv_d k_Rs_over 19 rfl) rfl rfl ?_
        refine sv_getN (pc := 32) 5 (sv_d k_Rs_over 20 rfl) cf5 (by decide) w283 h_a1 (ss_l5 h_a1) rfl ?_
        refine sv_callV (pc := 35) (ψ := (ss_pi r1.2)) (As := [sv_r E a1, .int (r1.2.1 a1 5)]) (rest := [.int (0 : Int32)]) (c := 88) (sv_d k_Rs_over 21 rfl) g_Rs_perTon w892 in_Rs_perTon se_Rs_perTon cf6 kd88 (ss_lt (by decide)) rfl (Nat.le_of_ble_eq_true rfl) (V_Rs_perTon E (d + 2) a1 (r1.2.1 a1 5) r1.2 h_a1 o_a1 (ss_l5 h_a1)) (Nat.le_of_ble_eq_true rfl) rfl (fun r2 => ?_)
        show sv_V E _ _ _ 38 _ [.int r2, .int (0 : Int32)] (ss_e r1.2) _
        refine sv_iload_n (pc := 38) 0 (sv_d k_Rs_over 22 rfl) rfl rfl ?_
        refine sv_isub (pc := 39) (sv_d k_Rs_over 23 rfl) ?_
        refine sv_callS (pc := 40) (ψ := (ss_pi r1.2)) (As := [.int (0 : Int32), .int (r2 - r1.1)]) (rest := []) (sv_d k_Rs_over 24 rfl) g_JM_max w898 st_JM_max rfl (Nat.le_of_ble_eq_true rfl) (V_JM_max E (d + 3) (0 : Int32) (r2 - r1.1) r1.2) (Nat.le_of_ble_eq_true rfl) rfl (fun r3 => ?_)
        show sv_V E _ _ _ 43 _ [.int r3] (ss_e r1.2) _
        exact sv_ret (pc := 43) (sv_d k_Rs_over 25 rfl) ⟨_, rfl, rfl⟩ rfl
      · refine sv_iconst (pc := 26) (v := (0 : Int32)) (sv_d k_Rs_over 14 rfl) (by decide) ?_
        exact sv_ret (pc := 27) (sv_d k_Rs_over 15 rfl) ⟨_, rfl, rfl⟩ rfl
/-! Rs_weigh -/
abbrev m_Rs_weigh : sv_M := (yX6_weigh, cX6_weigh, 6, (some .int))
def t_Rs_weigh : List (Nat × Instr × Nat) := [(0, .aload_n 0, 1), (1, .getfield 17, 3), (4, .iconst 0, 1), (5, .invokestatic 108, 3), (8, .aload_n 0, 1), (9, .getfield 21, 3), (12, .aload_n 1, 1), (13, .getfield 43, 3), (16, .aload_n 1, 1), (17, .getfield 46, 3), (20, .aload_n 0, 1), (21, .getfield 17, 3), (24, .invokevirtual 114, 3), (27, .aload_n 0, 1), (28, .getfield 25, 3), (31, .aload_n 1, 1), (32, .getfield 40, 3), (35, .iload_n 2, 1), (36, .bipush 6, 2), (38, .invokevirtual 67, 3), (41, .ifCond .ne 7, 3), (44, .iconst 1, 1), (45, .goto 4, 3), (48, .iconst 0, 1), (49, .istore_n 3, 1), (50, .iconst 0, 1), (51, .istore 4, 2), (53, .iconst 0, 1), (54, .istore 5, 2), (56, .iload 5, 2), (58, .bipush 6, 2), (60, .if_icmp .ge 43, 3), (63, .iload_n 3, 1), (64, .ifCond .eq 21, 3), (67, .aload_n 0, 1), (68, .getfield 17, 3), (71, .iload 5, 2), (73, .iaload, 1), (74, .ifCond .le 11, 3), (77, .aload_n 0, 1), (78, .getfield 17, 3), (81, .iload 5, 2), (83, .iconst 1, 1), (84, .iastore, 1), (85, .iload 4, 2), (87, .aload_n 0, 1), (88, .getfield 17, 3), (91, .iload 5, 2), (93, .iaload, 1), (94, .iadd, 1), (95, .istore 4, 2), (97, .iinc 5 1, 3), (100, .goto (-44), 3), (103, .iload 4, 2), (105, .ireturn, 1)]
theorem k_Rs_weigh : sv_tk m_Rs_weigh.2.1 t_Rs_weigh := by decide +kernel
theorem g_Rs_weigh : sv_G m_Rs_weigh 2 := ⟨by decide +kernel, sv_in 924 (by decide +kernel) rfl, sv_in 96 (by decide +kernel) rfl, ⟨by decide, by decide⟩, by decide +kernel, by decide⟩
theorem in_Rs_weigh : Cond.instanceMethod m_Rs_weigh.1 ∈ sv_T := sv_in 923 (by decide +kernel) rfl
theorem se_Rs_weigh : Cond.selects m_Rs_weigh.1.cls m_Rs_weigh.1 m_Rs_weigh.1 ∈ sv_T := sv_in 17 (by decide +kernel) rfl
def F_Rs_weigh_b85 (kc56 : Int32 → Int32 → Int32 → sv_S → Option (Int32 × sv_S)) (x3 : Int32) (x4 : Int32) (x5 : Int32) (s : sv_S) : Option (Int32 × sv_S) :=
  if sv_ib x5 6 = true then
    ss_let (x4 + (s.1 90 x5.toNatClampNeg)) fun v4 =>
    ss_let (x5 + (1 : Int32)) fun v5 =>
    kc56 x3 v4 v5 s
  else none
theorem V_Rs_weigh_b85 (E : sv_E) (d : Nat) (kc56 : Int32 → Int32 → Int32 → sv_S → Option (Int32 × sv_S)) (hc56 : ∀ (x3 : Int32) (x4 : Int32) (x5 : Int32) (s : sv_S), sv_V E m_Rs_weigh (d + 4) ss_i 56 [(0, sv_r E 88), (3, .int x3), (4, .int x4), (5, .int x5)] [] (ss_e s) (kc56 x3 x4 x5 s)) (x3 : Int32) (x4 : Int32) (x5 : Int32) (s : sv_S) : sv_V E m_Rs_weigh (d + 4) ss_i 85 [(0, sv_r E 88), (3, .int x3), (4, .int x4), (5, .int x5)] [] (ss_e s) (F_Rs_weigh_b85 kc56 x3 x4 x5 s) := by
  unfold F_Rs_weigh_b85
  refine sv_iload (pc := 85) 2 (sv_d k_Rs_weigh 44 rfl) rfl ?_
  refine sv_aload_n (pc := 87) 0 (sv_d k_Rs_weigh 45 rfl) rfl rfl ?_
  refine sv_getf (pc := 88) 3 (sv_d k_Rs_weigh 46 rfl) cf6 (by decide) w330 kd88 (ss_lt (by decide)) (lr_88_3 E _) ?_
  refine sv_iload (pc := 91) 3 (sv_d k_Rs_weigh 47 rfl) rfl ?_
  refine ss_iald (pc := 93) (n := 6) (sv_d k_Rs_weigh 48 rfl) kd90 (ss_lt (by decide)) rfl ?_
  refine sv_iadd (pc := 94) (sv_d k_Rs_weigh 49 rfl) ?_
  refine ss_top (fun v4 e_v4 => ?_)
  refine sv_istore (pc := 95) (lv' := [(4, .int v4), (0, sv_r E 88), (3, .int x3), (5, .int x5)]) (sv_d k_Rs_weigh 50 rfl) (by decide) rfl ?_
  refine ss_letr (fun v5 e_v5 => ?_)
  refine sv_iinc (pc := 97) (v := v5) (lv' := [(5, .int v5), (4, .int v4), (0, sv_r E 88), (3, .int x3)]) (sv_d k_Rs_weigh 51 rfl) (n := 3) rfl (by rw [e_v5]; rfl) (by decide) rfl ?_
  refine sv_goto (pc := 100) (tgt := 56) (sv_d k_Rs_weigh 52 rfl) (by decide) ?_
  exact sv_loc [2, 3, 1, 0] rfl (hc56 x3 v4 v5 s)
def F_Rs_weigh_b56 : Nat → Int32 → Int32 → Int32 → sv_S → Option (Int32 × sv_S)
  | 0 => fun _ _ _ _ => none
  | n + 1 => fun x3 x4 x5 s =>
    if (6 : Int32) ≤ x5 then
      some (x4, s)
    else
    if x3 = 0 then
      F_Rs_weigh_b85 (F_Rs_weigh_b56  n) x3 x4 x5 s
    else
    if sv_ib x5 6 = true then
      if (s.1 90 x5.toNatClampNeg) ≤ 0 then
        F_Rs_weigh_b85 (F_Rs_weigh_b56  n) x3 x4 x5 s
      else
      if sv_ib x5 6 = true then
        ss_let (ss_setI s 90 x5.toNatClampNeg (1 : Int32)) fun s6 =>
        F_Rs_weigh_b85 (F_Rs_weigh_b56  n) x3 x4 x5 s6
      else none
    else none
theorem V_Rs_weigh_b56 (E : sv_E) (d : Nat) : ∀ (n : Nat) (x3 : Int32) (x4 : Int32) (x5 : Int32) (s : sv_S), sv_V E m_Rs_weigh (d + 4) ss_i 56 [(0, sv_r E 88), (3, .int x3), (4, .int x4), (5, .int x5)] [] (ss_e s) (F_Rs_weigh_b56 n x3 x4 x5 s) := by
  intro n
  induction n with
  | zero => intro x3 x4 x5 s; exact sv_none
  | succ n ih =>
    intro x3 x4 x5 s
    unfold F_Rs_weigh_b56
    refine sv_iload (pc := 56) 3 (sv_d k_Rs_weigh 29 rfl) rfl ?_
    refine sv_bipush (pc := 58) (v := (6 : Int32)) (sv_d k_Rs_weigh 30 rfl) (by decide) ?_
    refine sv_icmp_ge (pc := 60) (tgt := 103) (sv_d k_Rs_weigh 31 rfl) (by decide) ?_ ?_
    · refine sv_iload (pc := 103) 2 (sv_d k_Rs_weigh 53 rfl) rfl ?_
      exact sv_ret (pc := 105) (sv_d k_Rs_weigh 54 rfl) ⟨_, rfl, rfl⟩ rfl
    · refine sv_iload_n (pc := 63) 1 (sv_d k_Rs_weigh 32 rfl) rfl rfl ?_
      refine sv_if_eq (pc := 64) (tgt := 85) (sv_d k_Rs_weigh 33 rfl) (by decide) ?_ ?_
      · exact sv_loc [0, 1, 2, 3] rfl (V_Rs_weigh_b85 E d (F_Rs_weigh_b56  n) ih x3 x4 x5 s)
      · refine sv_aload_n (pc := 67) 0 (sv_d k_Rs_weigh 34 rfl) rfl rfl ?_
        refine sv_getf (pc := 68) 3 (sv_d k_Rs_weigh 35 rfl) cf6 (by decide) w330 kd88 (ss_lt (by decide)) (lr_88_3 E _) ?_
        refine sv_iload (pc := 71) 3 (sv_d k_Rs_weigh 36 rfl) rfl ?_
        refine ss_iald (pc := 73) (n := 6) (sv_d k_Rs_weigh 37 rfl) kd90 (ss_lt (by decide)) rfl ?_
        refine sv_if_le (pc := 74) (tgt := 85) (sv_d k_Rs_weigh 38 rfl) (by decide) ?_ ?_
        · exact sv_loc [0, 1, 2, 3] rfl (V_Rs_weigh_b85 E d (F_Rs_weigh_b56  n) ih x3 x4 x5 s)
        · refine sv_aload_n (pc := 77) 0 (sv_d k_Rs_weigh 39 rfl) rfl rfl ?_
          refine sv_getf (pc := 78) 3 (sv_d k_Rs_weigh 40 rfl) cf6 (by decide) w330 kd88 (ss_lt (by decide)) (lr_88_3 E _) ?_
          refine sv_iload (pc := 81) 3 (sv_d k_Rs_weigh 41 rfl) rfl ?_
          refine sv_iconst (pc := 83) (v := (1 : Int32)) (sv_d k_Rs_weigh 42 rfl) (by decide) ?_
          refine ss_iast (pc := 84) (n := 6) (sv_d k_Rs_weigh 43 rfl) kd90 (by decide) (ss_lt (by decide)) rfl (ss_lets (fun s6 e_s6 => ?_))
          exact sv_loc [0, 1, 2, 3] rfl (V_Rs_weigh_b85 E d (F_Rs_weigh_b56  n) ih x3 x4 x5 s6)
def F_Rs_weigh_b49 (t0 : Int32) (s : sv_S) : Option (Int32 × sv_S) :=
  F_Rs_weigh_b56 ss_F t0 (0 : Int32) (0 : Int32) s
theorem V_Rs_weigh_b49 (E : sv_E) (d : Nat) (t0 : Int32) (s : sv_S) : sv_V E m_Rs_weigh (d + 4) ss_i 49 [(0, sv_r E 88)] [.int t0] (ss_e s) (F_Rs_weigh_b49 t0 s) := by
  unfold F_Rs_weigh_b49
  refine sv_istore_n (pc := 49) (lv' := [(3, .int t0), (0, sv_r E 88)]) (sv_d k_Rs_weigh 24 rfl) rfl (by decide) rfl ?_
  refine sv_iconst (pc := 50) (v := (0 : Int32)) (sv_d k_Rs_weigh 25 rfl) (by decide) ?_
  refine sv_istore (pc := 51) (lv' := [(4, .int (0 : Int32)), (3, .int t0), (0, sv_r E 88)]) (sv_d k_Rs_weigh 26 rfl) (by decide) rfl ?_
  refine sv_iconst (pc := 53) (v := (0 : Int32)) (sv_d k_Rs_weigh 27 rfl) (by decide) ?_
  refine sv_istore (pc := 54) (lv' := [(5, .int (0 : Int32)), (4, .int (0 : Int32)), (3, .int t0), (0, sv_r E 88)]) (sv_d k_Rs_weigh 28 rfl) (by decide) rfl ?_
  exact sv_loc [3, 2, 1, 0] rfl (V_Rs_weigh_b56 E d ss_F t0 (0 : Int32) (0 : Int32) s)
def F_Rs_weigh (a1 : Nat) (x2 : Int32) (s : sv_S) : Option (Int32 × sv_S) :=
  (F_JA_fillI 90 (0 : Int32) s).bind fun r1 =>
  (F_Ro_addMilesOfOwners (r1.1 a1 3) (r1.1 a1 4) 90 r1).bind fun r2 =>
  (F_Ls_value (r2.1 a1 2) x2 (6 : Int32) r2).bind fun r3 =>
  if r3.1 = 0 then
    F_Rs_weigh_b49 (1 : Int32) r3.2
  else
  F_Rs_weigh_b49 (0 : Int32) r3.2
theorem V_Rs_weigh (E : sv_E) (d : Nat) (a1 : Nat) (x2 : Int32) (s : sv_S) (h_a1 : ss_K a1 = 5) (o_a1 : 64 ≤ a1) (l_a1 : a1 < 243 + s.2.2.2.2.1) : sv_V E m_Rs_weigh (d + 4) ss_i 0 (lv_args 0 [sv_r E 88, sv_r E a1, .int x2]) [] (ss_e s) (F_Rs_weigh a1 x2 s) := by
  show sv_V E m_Rs_weigh (d + 4) ss_i 0 [(0, sv_r E 88), (1, sv_r E a1), (2, .int x2)] [] (ss_e s) _
  unfold F_Rs_weigh
  refine sv_aload_n (pc := 0) 0 (sv_d k_Rs_weigh 0 rfl) rfl rfl ?_
  refine sv_getf (pc := 1) 3 (sv_d k_Rs_weigh 1 rfl) cf6 (by decide) w330 kd88 (ss_lt (by decide)) (lr_88_3 E _) ?_
  refine sv_iconst (pc := 4) (v := (0 : Int32)) (sv_d k_Rs_weigh 2 rfl) (by decide) ?_
  refine sv_callS (pc := 5) (ψ := ss_v) (As := [sv_r E 90, .int (0 : Int32)]) (rest := []) (sv_d k_Rs_weigh 3 rfl) g_JA_fillI w925 st_JA_fillI rfl (Nat.le_of_ble_eq_true rfl) (V_JA_fillI E (d + 3) 90 (0 : Int32) s kd90 (by decide) (ss_lt (s := s) (by decide))) (Nat.le_of_ble_eq_true rfl) rfl (fun r1 => ?_)
  show sv_V E _ _ _ 8 _ [] (ss_e r1) _
  refine sv_aload_n (pc := 8) 0 (sv_d k_Rs_weigh 4 rfl) rfl rfl ?_
  refine sv_getf (pc := 9) 0 (sv_d k_Rs_weigh 5 rfl) cf6 (by decide) w327 kd88 (ss_lt (by decide)) (lr_88_0 E _) ?_
  refine sv_aload_n (pc := 12) 1 (sv_d k_Rs_weigh 6 rfl) rfl rfl ?_
  refine sv_getN (pc := 13) 3 (sv_d k_Rs_weigh 7 rfl) cf5 (by decide) w272 h_a1 (ss_l5 h_a1) rfl ?_
  refine sv_aload_n (pc := 16) 1 (sv_d k_Rs_weigh 8 rfl) rfl rfl ?_
  refine sv_getN (pc := 17) 4 (sv_d k_Rs_weigh 9 rfl) cf5 (by decide) w277 h_a1 (ss_l5 h_a1) rfl ?_
  refine sv_aload_n (pc := 20) 0 (sv_d k_Rs_weigh 10 rfl) rfl rfl ?_
  refine sv_getf (pc := 21) 3 (sv_d k_Rs_weigh 11 rfl) cf6 (by decide) w330 kd88 (ss_lt (by decide)) (lr_88_3 E _) ?_
  refine sv_callV (pc := 24) (ψ := ss_v) (As := [.int (r1.1 a1 3), .int (r1.1 a1 4), sv_r E 90]) (rest := []) (c := 65) (sv_d k_Rs_weigh 12 rfl) g_Ro_addMilesOfOwners w926 in_Ro_addMilesOfOwners se_Ro_addMilesOfOwners cf7 kd65 (ss_lt (by decide)) rfl (Nat.le_of_ble_eq_true rfl) (V_Ro_addMilesOfOwners E (d + 0) (r1.1 a1 3) (r1.1 a1 4) 90 r1 kd90 (by decide) (ss_lt (s := r1) (by decide))) (Nat.le_of_ble_eq_true rfl) rfl (fun r2 => ?_)
  show sv_V E _ _ _ 27 _ [] (ss_e r2) _
  refine sv_aload_n (pc := 27) 0 (sv_d k_Rs_weigh 13 rfl) rfl rfl ?_
  refine sv_getf (pc := 28) 1 (sv_d k_Rs_weigh 14 rfl) cf6 (by decide) w328 kd88 (ss_lt (by decide)) (lr_88_1 E _) ?_
  refine sv_aload_n (pc := 31) 1 (sv_d k_Rs_weigh 15 rfl) rfl rfl ?_
  refine sv_getN (pc := 32) 2 (sv_d k_Rs_weigh 16 rfl) cf5 (by decide) w266 h_a1 (ss_l5 h_a1) rfl ?_
  refine sv_iload_n (pc := 35) 2 (sv_d k_Rs_weigh 17 rfl) rfl rfl ?_
  refine sv_bipush (pc := 36) (v := (6 : Int32)) (sv_d k_Rs_weigh 18 rfl) (by decide) ?_
  refine sv_callV (pc := 38) (ψ := ss_i) (As := [.int (r2.1 a1 2), .int x2, .int (6 : Int32)]) (rest := []) (c := 81) (sv_d k_Rs_weigh 19 rfl) g_Ls_value w858 in_Ls_value se_Ls_value cf4 kd81 (ss_lt (by decide)) rfl (Nat.le_of_ble_eq_true rfl) (V_Ls_value E (d + 2) (r2.1 a1 2) x2 (6 : Int32) r2) (Nat.le_of_ble_eq_true rfl) rfl (fun r3 => ?_)
  show sv_V E _ _ _ 41 _ [.int r3.1] (ss_e r3.2) _
  refine sv_if_ne (pc := 41) (tgt := 48) (sv_d k_Rs_weigh 20 rfl) (by decide) ?_ ?_
  · refine sv_iconst (pc := 48) (v := (0 : Int32)) (sv_d k_Rs_weigh 23 rfl) (by decide) ?_
    exact sv_loc [0] rfl (V_Rs_weigh_b49 E d (0 : Int32) r3.2)
  · refine sv_iconst (pc := 44) (v := (1 : Int32)) (sv_d k_Rs_weigh 21 rfl) (by decide) ?_
    refine sv_goto (pc := 45) (tgt := 49) (sv_d k_Rs_weigh 22 rfl) (by decide) ?_
    exact sv_loc [0] rfl (V_Rs_weigh_b49 E d (1 : Int32) r3.2)
/-! Rs_share -/
abbrev m_Rs_share : sv_M := (yX6_share, cX6_share, 10, (some .int))
def t_Rs_share : List (Nat × Instr × Nat) := [(0, .aload_n 0, 1), (1, .aload_n 1, 1), (2, .iload_n 2, 1), (3, .invokevirtual 105, 3), (6, .istore 4, 2), (8, .iload 4, 2), (10, .ifCond .gt 5, 3), (13, .iconst (-1), 1), (14, .ireturn, 1), (15, .aload_n 1, 1), (16, .getfield 49, 3), (19, .istore 5, 2), (21, .aload_n 1, 1), (22, .getfield 49, 3), (25, .aload_n 0, 1), (26, .getfield 17, 3), (29, .iload_n 3, 1), (30, .iaload, 1), (31, .imul, 1), (32, .iload 4, 2), (34, .irem, 1), (35, .istore 6, 2), (37, .iconst 0, 1), (38, .istore 7, 2), (40, .iconst 0, 1), (41, .istore 8, 2), (43, .iload 8, 2), (45, .bipush 6, 2), (47, .if_icmp .ge 69, 3), (50, .iload 5, 2), (52, .aload_n 1, 1), (53, .getfield 49, 3), (56, .aload_n 0, 1), (57, .getfield 17, 3), (60, .iload 8, 2), (62, .iaload, 1), (63, .imul, 1), (64, .iload 4, 2), (66, .idiv, 1), (67, .isub, 1), (68, .istore 5, 2), (70, .aload_n 1, 1), (71, .getfield 49, 3), (74, .aload_n 0, 1), (75, .getfield 17, 3), (78, .iload 8, 2), (80, .iaload, 1), (81, .imul, 1), (82, .iload 4, 2), (84, .irem, 1), (85, .istore 9, 2), (87, .iload 9, 2), (89, .iload 6, 2), (91, .if_icmp .gt 16, 3), (94, .iload 9, 2), (96, .iload 6, 2), (98, .if_icmp .ne 12, 3), (101, .iload 8, 2), (103, .iload_n 3, 1), (104, .if_icmp .ge 6, 3), (107, .iinc 7 1, 3), (110, .iinc 8 1, 3), (113, .goto (-70), 3), (116, .aload_n 1, 1), (117, .getfield 49, 3), (120, .aload_n 0, 1), (121, .getfield 17, 3), (124, .iload_n 3, 1), (125, .iaload, 1), (126, .imul, 1), (127, .iload 4, 2), (129, .idiv, 1), (130, .iload 7, 2), (132, .iload 5, 2), (134, .if_icmp .ge 7, 3), (137, .iconst 1, 1), (138, .goto 4, 3), (141, .iconst 0, 1), (142, .iadd, 1), (143, .ireturn, 1)]
theorem k_Rs_share : sv_tk m_Rs_share.2.1 t_Rs_share := by decide +kernel
theorem g_Rs_share : sv_G m_Rs_share 3 := ⟨by decide +kernel, sv_in 920 (by decide +kernel) rfl, sv_in 96 (by decide +kernel) rfl, ⟨by decide, by decide⟩, by decide +kernel, by decide⟩
theorem in_Rs_share : Cond.instanceMethod m_Rs_share.1 ∈ sv_T := sv_in 918 (by decide +kernel) rfl
theorem se_Rs_share : Cond.selects m_Rs_share.1.cls m_Rs_share.1 m_Rs_share.1 ∈ sv_T := sv_in 919 (by decide +kernel) rfl
def F_Rs_share_b110 (kc43 : Nat → Int32 → Int32 → Int32 → Int32 → Int32 → Int32 → sv_S → Option (Int32 × sv_S)) (a1 : Nat) (x3 : Int32) (x4 : Int32) (x5 : Int32) (x6 : Int32) (x7 : Int32) (x8 : Int32) (s : sv_S) : Option (Int32 × sv_S) :=
  ss_let (x8 + (1 : Int32)) fun v7 =>
  kc43 a1 x3 x4 x5 x6 x7 v7 s
theorem V_Rs_share_b110 (E : sv_E) (d : Nat) (kc43 : Nat → Int32 → Int32 → Int32 → Int32 → Int32 → Int32 → sv_S → Option (Int32 × sv_S)) (hc43 : ∀ (a1 : Nat) (x3 : Int32) (x4 : Int32) (x5 : Int32) (x6 : Int32) (x7 : Int32) (x8 : Int32) (s : sv_S) (h_a1 : ss_K a1 = 5) (o_a1 : 64 ≤ a1) (l_a1 : a1 < 243 + s.2.2.2.2.1), sv_V E m_Rs_share (d + 5) ss_i 43 [(0, sv_r E 88), (1, sv_r E a1), (3, .int x3), (4, .int x4), (5, .int x5), (6, .int x6), (7, .int x7), (8, .int x8)] [] (ss_e s) (kc43 a1 x3 x4 x5 x6 x7 x8 s)) (a1 : Nat) (x3 : Int32) (x4 : Int32) (x5 : Int32) (x6 : Int32) (x7 : Int32) (x8 : Int32) (s : sv_S) (h_a1 : ss_K a1 = 5) (o_a1 : 64 ≤ a1) (l_a1 : a1 < 243 + s.2.2.2.2.1) : sv_V E m_Rs_share (d + 5) ss_i 110 [(0, sv_r E 88), (1, sv_r E a1), (3, .int x3), (4, .int x4), (5, .int x5), (6, .int x6), (7, .int x7), (8, .int x8)] [] (ss_e s) (F_Rs_share_b110 kc43 a1 x3 x4 x5 x6 x7 x8 s) := by
  unfold F_Rs_share_b110
  refine ss_letr (fun v7 e_v7 => ?_)
  refine sv_iinc (pc := 110) (v := v7) (lv' := [(8, .int v7), (0, sv_r E 88), (1, sv_r E a1), (3, .int x3), (4, .int x4), (5, .int x5), (6, .int x6), (7, .int x7)]) (sv_d k_Rs_share 61 rfl) (n := 7) rfl (by rw [e_v7]; rfl) (by decide) rfl ?_
  refine sv_goto (pc := 113) (tgt := 43) (sv_d k_Rs_share 62 rfl) (by decide) ?_
  exact sv_loc [1, 2, 3, 4, 5, 6, 7, 0] rfl (hc43 a1 x3 x4 x5 x6 x7 v7 s h_a1 o_a1 l_a1)
def F_Rs_share_b107 (kc43 : Nat → Int32 → Int32 → Int32 → Int32 → Int32 → Int32 → sv_S → Option (Int32 × sv_S)) (a1 : Nat) (x3 : Int32) (x4 : Int32) (x5 : Int32) (x6 : Int32) (x7 : Int32) (x8 : Int32) (s : sv_S) : Option (Int32 × sv_S) :=
  ss_let (x7 + (1 : Int32)) fun v6 =>
  F_Rs_share_b110 kc43 a1 x3 x4 x5 x6 v6 x8 s
theorem V_Rs_share_b107 (E : sv_E) (d : Nat) (kc43 : Nat → Int32 → Int32 → Int32 → Int32 → Int32 → Int32 → sv_S → Option (Int32 × sv_S)) (hc43 : ∀ (a1 : Nat) (x3 : Int32) (x4 : Int32) (x5 : Int32) (x6 : Int32) (x7 : Int32) (x8 : Int32) (s : sv_S) (h_a1 : ss_K a1 = 5) (o_a1 : 64 ≤ a1) (l_a1 : a1 < 243 + s.2.2.2.2.1), sv_V E m_Rs_share (d + 5) ss_i 43 [(0, sv_r E 88), (1, sv_r E a1), (3, .int x3), (4, .int x4), (5, .int x5), (6, .int x6), (7, .int x7), (8, .int x8)] [] (ss_e s) (kc43 a1 x3 x4 x5 x6 x7 x8 s)) (a1 : Nat) (x3 : Int32) (x4 : Int32) (x5 : Int32) (x6 : Int32) (x7 : Int32) (x8 : Int32) (s : sv_S) (h_a1 : ss_K a1 = 5) (o_a1 : 64 ≤ a1) (l_a1 : a1 < 243 + s.2.2.2.2.1) : sv_V E m_Rs_share (d + 5) ss_i 107 [(0, sv_r E 88), (1, sv_r E a1), (3, .int x3), (4, .int x4), (5, .int x5), (6, .int x6), (7, .int x7), (8, .int x8)] [] (ss_e s) (F_Rs_share_b107 kc43 a1 x3 x4 x5 x6 x7 x8 s) := by
  unfold F_Rs_share_b107
  refine ss_letr (fun v6 e_v6 => ?_)
  refine sv_iinc (pc := 107) (v := v6) (lv' := [(7, .int v6), (0, sv_r E 88), (1, sv_r E a1), (3, .int x3), (4, .int x4), (5, .int x5), (6, .int x6), (8, .int x8)]) (sv_d k_Rs_share 60 rfl) (n := 6) rfl (by rw [e_v6]; rfl) (by decide) rfl ?_
  exact sv_loc [1, 2, 3, 4, 5, 6, 0, 7] rfl (V_Rs_share_b110 E d kc43 hc43 a1 x3 x4 x5 x6 v6 x8 s h_a1 o_a1 l_a1)
def F_Rs_share_b43 : Nat → Nat → Int32 → Int32 → Int32 → Int32 → Int32 → Int32 → sv_S → Option (Int32 × sv_S)
  | 0 => fun _ _ _ _ _ _ _ _ => none
  | n + 1 => fun a1 x3 x4 x5 x6 x7 x8 s =>
    if (6 : Int32) ≤ x8 then
      if sv_ib x3 6 = true then
        if x4 = 0 then none else
        if x5 ≤ x7 then
          some ((((s.1 a1 5) * (s.1 90 x3.toNatClampNeg)) / x4) + (0 : Int32), s)
        else
        some ((((s.1 a1 5) * (s.1 90 x3.toNatClampNeg)) / x4) + (1 : Int32), s)
      else none
    else
    if sv_ib x8 6 = true then
      if x4 = 0 then none else
      ss_let (x5 - (((s.1 a1 5) * (s.1 90 x8.toNatClampNeg)) / x4)) fun v4 =>
      if sv_ib x8 6 = true then
        if x4 = 0 then none else
        ss_let (((s.1 a1 5) * (s.1 90 x8.toNatClampNeg)) - ((s.1 a1 5) * (s.1 90 x8.toNatClampNeg)) / x4 * x4) fun v5 =>
        if x6 < v5 then
          F_Rs_share_b107 (F_Rs_share_b43  n) a1 x3 x4 v4 x6 x7 x8 s
        else
        if v5 = x6 then
          if x3 ≤ x8 then
            F_Rs_share_b110 (F_Rs_share_b43  n) a1 x3 x4 v4 x6 x7 x8 s
          else
          F_Rs_share_b107 (F_Rs_share_b43  n) a1 x3 x4 v4 x6 x7 x8 s
        else
        F_Rs_share_b110 (F_Rs_share_b43  n) a1 x3 x4 v4 x6 x7 x8 s
      else none
    else none
theorem V_Rs_share_b43 (E : sv_E) (d : Nat) : ∀ (n : Nat) (a1 : Nat) (x3 : Int32) (x4 : Int32) (x5 : Int32) (x6 : Int32) (x7 : Int32) (x8 : Int32) (s : sv_S) (h_a1 : ss_K a1 = 5) (o_a1 : 64 ≤ a1) (l_a1 : a1 < 243 + s.2.2.2.2.1), sv_V E m_Rs_share (d + 5) ss_i 43 [(0, sv_r E 88), (1, sv_r E a1), (3, .int x3), (4, .int x4), (5, .int x5), (6, .int x6), (7, .int x7), (8, .int x8)] [] (ss_e s) (F_Rs_share_b43 n a1 x3 x4 x5 x6 x7 x8 s) := by
  intro n
  induction n with
  | zero => intro a1 x3 x4 x5 x6 x7 x8 s h_a1 o_a1 l_a1; exact sv_none
  | succ n ih =>
    intro a1 x3 x4 x5 x6 x7 x8 s h_a1 o_a1 l_a1
    unfold F_Rs_share_b43
    refine sv_iload (pc := 43) 7 (sv_d k_Rs_share 26 rfl) rfl ?_
    refine sv_bipush (pc := 45) (v := (6 : Int32)) (sv_d k_Rs_share 27 rfl) (by decide) ?_
    refine sv_icmp_ge (pc := 47) (tgt := 116) (sv_d k_Rs_share 28 rfl) (by decide) ?_ ?_
    · refine sv_aload_n (pc := 116) 1 (sv_d k_Rs_share 63 rfl) rfl rfl ?_
      refine sv_getN (pc := 117) 5 (sv_d k_Rs_share 64 rfl) cf5 (by decide) w283 h_a1 l_a1 rfl ?_
      refine sv_aload_n (pc := 120) 0 (sv_d k_Rs_share 65 rfl) rfl rfl ?_
      refine sv_getf (pc := 121) 3 (sv_d k_Rs_share 66 rfl) cf6 (by decide) w330 kd88 (ss_lt (by decide)) (lr_88_3 E _) ?_
      refine sv_iload_n (pc := 124) 2 (sv_d k_Rs_share 67 rfl) rfl rfl ?_
      refine ss_iald (pc := 125) (n := 6) (sv_d k_Rs_share 68 rfl) kd90 (ss_lt (by decide)) rfl ?_
      refine sv_imul (pc := 126) (sv_d k_Rs_share 69 rfl) ?_
      refine sv_iload (pc := 127) 3 (sv_d k_Rs_share 70 rfl) rfl ?_
      refine sv_idiv (pc := 129) (sv_d k_Rs_share 71 rfl) ?_
      refine sv_iload (pc := 130) 6 (sv_d k_Rs_share 72 rfl) rfl ?_
      refine sv_iload (pc := 132) 4 (sv_d k_Rs_share 73 rfl) rfl ?_
      refine sv_icmp_ge (pc := 134) (tgt := 141) (sv_d k_Rs_share 74 rfl) (by decide) ?_ ?_
      · refine sv_iconst (pc := 141) (v := (0 : Int32)) (sv_d k_Rs_share 77 rfl) (by decide) ?_
        refine sv_iadd (pc := 142) (sv_d k_Rs_share 78 rfl) ?_
        exact sv_ret (pc := 143) (sv_d k_Rs_share 79 rfl) ⟨_, rfl, rfl⟩ rfl
      · refine sv_iconst (pc := 137) (v := (1 : Int32)) (sv_d k_Rs_share 75 rfl) (by decide) ?_
        refine sv_goto (pc := 138) (tgt := 142) (sv_d k_Rs_share 76 rfl) (by decide) ?_
        refine sv_iadd (pc := 142) (sv_d k_Rs_share 78 rfl) ?_
        exact sv_ret (pc := 143) (sv_d k_Rs_share 79 rfl) ⟨_, rfl, rfl⟩ rfl
    · refine sv_iload (pc := 50) 4 (sv_d k_Rs_share 29 rfl) rfl ?_
      refine sv_aload_n (pc := 52) 1 (sv_d k_Rs_share 30 rfl) rfl rfl ?_
      refine sv_getN (pc := 53) 5 (sv_d k_Rs_share 31 rfl) cf5 (by decide) w283 h_a1 l_a1 rfl ?_
      refine sv_aload_n (pc := 56) 0 (sv_d k_Rs_share 32 rfl) rfl rfl ?_
      refine sv_getf (pc := 57) 3 (sv_d k_Rs_share 33 rfl) cf6 (by decide) w330 kd88 (ss_lt (by decide)) (lr_88_3 E _) ?_
      refine sv_iload (pc := 60) 7 (sv_d k_Rs_share 34 rfl) rfl ?_
      refine ss_iald (pc := 62) (n := 6) (sv_d k_Rs_share 35 rfl) kd90 (ss_lt (by decide)) rfl ?_
      refine sv_imul (pc := 63) (sv_d k_Rs_share 36 rfl) ?_
      refine sv_iload (pc := 64) 3 (sv_d k_Rs_share 37 rfl) rfl ?_
      refine sv_idiv (pc := 66) (sv_d k_Rs_share 38 rfl) ?_
      refine sv_isub (pc := 67) (sv_d k_Rs_share 39 rfl) ?_
      refine ss_top (fun v4 e_v4 => ?_)
      refine sv_istore (pc := 68) (lv' := [(5, .int v4), (0, sv_r E 88), (1, sv_r E a1), (3, .int x3), (4, .int x4), (6, .int x6), (7, .int x7), (8, .int x8)]) (sv_d k_Rs_share 40 rfl) (by decide) rfl ?_
      refine sv_aload_n (pc := 70) 2 (sv_d k_Rs_share 41 rfl) rfl rfl ?_
      refine sv_getN (pc := 71) 5 (sv_d k_Rs_share 42 rfl) cf5 (by decide) w283 h_a1 l_a1 rfl ?_
      refine sv_aload_n (pc := 74) 1 (sv_d k_Rs_share 43 rfl) rfl rfl ?_
      refine sv_getf (pc := 75) 3 (sv_d k_Rs_share 44 rfl) cf6 (by decide) w330 kd88 (ss_lt (by decide)) (lr_88_3 E _) ?_
      refine sv_iload (pc := 78) 7 (sv_d k_Rs_share 45 rfl) rfl ?_
      refine ss_iald (pc := 80) (n := 6) (sv_d k_Rs_share 46 rfl) kd90 (ss_lt (by decide)) rfl ?_
      refine sv_imul (pc := 81) (sv_d k_Rs_share 47 rfl) ?_
      refine sv_iload (pc := 82) 4 (sv_d k_Rs_share 48 rfl) rfl ?_
      refine sv_irem (pc := 84) (sv_d k_Rs_share 49 rfl) ?_
      refine ss_top (fun v5 e_v5 => ?_)
      refine sv_istore (pc := 85) (lv' := [(9, .int v5), (5, .int v4), (0, sv_r E 88), (1, sv_r E a1), (3, .int x3), (4, .int x4), (6, .int x6), (7, .int x7), (8, .int x8)]) (sv_d k_Rs_share 50 rfl) (by decide) rfl ?_
      refine sv_iload (pc := 87) 0 (sv_d k_Rs_share 51 rfl) rfl ?_
      refine sv_iload (pc := 89) 6 (sv_d k_Rs_share 52 rfl) rfl ?_
      refine sv_icmp_gt (pc := 91) (tgt := 107) (sv_d k_Rs_share 53 rfl) (by decide) ?_ ?_
      · exact sv_loc [2, 3, 4, 5, 1, 6, 7, 8] rfl (V_Rs_share_b107 E d (F_Rs_share_b43  n) ih a1 x3 x4 v4 x6 x7 x8 s h_a1 o_a1 l_a1)
      · refine sv_iload (pc := 94) 0 (sv_d k_Rs_share 54 rfl) rfl ?_
        refine sv_iload (pc := 96) 6 (sv_d k_Rs_share 55 rfl) rfl ?_
        refine sv_icmp_ne (pc := 98) (tgt := 110) (sv_d k_Rs_share 56 rfl) (by decide) ?_ ?_
        · exact sv_loc [2, 3, 4, 5, 1, 6, 7, 8] rfl (V_Rs_share_b110 E d (F_Rs_share_b43  n) ih a1 x3 x4 v4 x6 x7 x8 s h_a1 o_a1 l_a1)
        · refine sv_iload (pc := 101) 8 (sv_d k_Rs_share 57 rfl) rfl ?_
          refine sv_iload_n (pc := 103) 4 (sv_d k_Rs_share 58 rfl) rfl rfl ?_
          refine sv_icmp_ge (pc := 104) (tgt := 110) (sv_d k_Rs_share 59 rfl) (by decide) ?_ ?_
          · exact sv_loc [2, 3, 4, 5, 1, 6, 7, 8] rfl (V_Rs_share_b110 E d (F_Rs_share_b43  n) ih a1 x3 x4 v4 x6 x7 x8 s h_a1 o_a1 l_a1)
          · exact sv_loc [2, 3, 4, 5, 1, 6, 7, 8] rfl (V_Rs_share_b107 E d (F_Rs_share_b43  n) ih a1 x3 x4 v4 x6 x7 x8 s h_a1 o_a1 l_a1)
def F_Rs_share (a1 : Nat) (x2 : Int32) (x3 : Int32) (s : sv_S) : Option (Int32 × sv_S) :=
  (F_Rs_weigh a1 x2 s).bind fun r1 =>
  if 0 < r1.1 then
    ss_let (r1.2.1 a1 5) fun v2 =>
    if sv_ib x3 6 = true then
      if r1.1 = 0 then none else
      ss_let (((r1.2.1 a1 5) * (r1.2.1 90 x3.toNatClampNeg)) - ((r1.2.1 a1 5) * (r1.2.1 90 x3.toNatClampNeg)) / r1.1 * r1.1) fun v3 =>
      F_Rs_share_b43 ss_F a1 x3 r1.1 v2 v3 (0 : Int32) (0 : Int32) r1.2
    else none
  else
  some ((-1 : Int32), r1.2)
theorem V_Rs_share (E : sv_E) (d : Nat) (a1 : Nat) (x2 : Int32) (x3 : Int32) (s : sv_S) (h_a1 : ss_K a1 = 5) (o_a1 : 64 ≤ a1) (l_a1 : a1 < 243 + s.2.2.2.2.1) : sv_V E m_Rs_share (d + 5) ss_i 0 (lv_args 0 [sv_r E 88, sv_r E a1, .int x2, .int x3]) [] (ss_e s) (F_Rs_share a1 x2 x3 s) := by
  show sv_V E m_Rs_share (d + 5) ss_i 0 [(0, sv_r E 88), (1, sv_r E a1), (2, .int x2), (3, .int x3)] [] (ss_e s) _
  unfold F_Rs_share
  refine sv_aload_n (pc := 0) 0 (sv_d k_Rs_share 0 rfl) rfl rfl ?_
  refine sv_aload_n (pc := 1) 1 (sv_d k_Rs_share 1 rfl) rfl rfl ?_
  refine sv_iload_n (pc := 2) 2 (sv_d k_Rs_share 2 rfl) rfl rfl ?_
  refine sv_callV (pc := 3) (ψ := ss_i) (As := [sv_r E a1, .int x2]) (rest := []) (c := 88) (sv_d k_Rs_share 3 rfl) g_Rs_weigh w921 in_Rs_weigh se_Rs_weigh cf6 kd88 (ss_lt (by decide)) rfl (Nat.le_of_ble_eq_true rfl) (V_Rs_weigh E (d + 0) a1 x2 s h_a1 o_a1 l_a1) (Nat.le_of_ble_eq_true rfl) rfl (fun r1 => ?_)
  show sv_V E _ _ _ 6 _ [.int r1.1] (ss_e r1.2) _
  refine sv_istore (pc := 6) (lv' := [(4, .int r1.1), (0, sv_r E 88), (1, sv_r E a1), (2, .int x2), (3, .int x3)]) (sv_d k_Rs_share 4 rfl) (by decide) rfl ?_
  refine sv_iload (pc := 8) 0 (sv_d k_Rs_share 5 rfl) rfl ?_
  refine sv_if_gt (pc := 10) (tgt := 15) (sv_d k_Rs_share 6 rfl) (by decide) ?_ ?_
  · refine sv_aload_n (pc := 15) 2 (sv_d k_Rs_share 9 rfl) rfl rfl ?_
    refine sv_getN (pc := 16) 5 (sv_d k_Rs_share 10 rfl) cf5 (by decide) w283 h_a1 (ss_l5 h_a1) rfl ?_
    refine ss_top (fun v2 e_v2 => ?_)
    refine sv_istore (pc := 19) (lv' := [(5, .int v2), (4, .int r1.1), (0, sv_r E 88), (1, sv_r E a1), (2, .int x2), (3, .int x3)]) (sv_d k_Rs_share 11 rfl) (by decide) rfl ?_
    refine sv_aload_n (pc := 21) 3 (sv_d k_Rs_share 12 rfl) rfl rfl ?_
    refine sv_getN (pc := 22) 5 (sv_d k_Rs_share 13 rfl) cf5 (by decide) w283 h_a1 (ss_l5 h_a1) rfl ?_
    refine sv_aload_n (pc := 25) 2 (sv_d k_Rs_share 14 rfl) rfl rfl ?_
    refine sv_getf (pc := 26) 3 (sv_d k_Rs_share 15 rfl) cf6 (by decide) w330 kd88 (ss_lt (by decide)) (lr_88_3 E _) ?_
    refine sv_iload_n (pc := 29) 5 (sv_d k_Rs_share 16 rfl) rfl rfl ?_
    refine ss_iald (pc := 30) (n := 6) (sv_d k_Rs_share 17 rfl) kd90 (ss_lt (by decide)) rfl ?_
    refine sv_imul (pc := 31) (sv_d k_Rs_share 18 rfl) ?_
    refine sv_iload (pc := 32) 1 (sv_d k_Rs_share 19 rfl) rfl ?_
    refine sv_irem (pc := 34) (sv_d k_Rs_share 20 rfl) ?_
    refine ss_top (fun v3 e_v3 => ?_)
    refine sv_istore (pc := 35) (lv' := [(6, .int v3), (5, .int v2), (4, .int r1.1), (0, sv_r E 88), (1, sv_r E a1), (2, .int x2), (3, .int x3)]) (sv_d k_Rs_share 21 rfl) (by decide) rfl ?_
    refine sv_iconst (pc := 37) (v := (0 : Int32)) (sv_d k_Rs_share 22 rfl) (by decide) ?_
    refine sv_istore (pc := 38) (lv' := [(7, .int (0 : Int32)), (6, .int v3), (5, .int v2), (4, .int r1.1), (0, sv_r E 88), (1, sv_r E a1), (2, .int x2), (3, .int x3)]) (sv_d k_Rs_share 23 rfl) (by decide) rfl ?_
    refine sv_iconst (pc := 40) (v := (0 : Int32)) (sv_d k_Rs_share 24 rfl) (by decide) ?_
    refine sv_istore (pc := 41) (lv' := [(8, .int (0 : Int32)), (7, .int (0 : Int32)), (6, .int v3), (5, .int v2), (4, .int r1.1), (0, sv_r E 88), (1, sv_r E a1), (2, .int x2), (3, .int x3)]) (sv_d k_Rs_share 25 rfl) (by decide) rfl ?_
    exact sv_loc [5, 6, 8, 4, 3, 2, 1, 0] rfl (V_Rs_share_b43 E d ss_F a1 x3 r1.1 v2 v3 (0 : Int32) (0 : Int32) r1.2 h_a1 o_a1 (ss_l5 h_a1))
  · refine sv_iconst (pc := 13) (v := (-1 : Int32)) (sv_d k_Rs_share 7 rfl) (by decide) ?_
    exact sv_ret (pc := 14) (sv_d k_Rs_share 8 rfl) ⟨_, rfl, rfl⟩ rfl
