/-! X_law -/
abbrev m_X_law : sv_M := (yX11_law, cX11_law, 4, (some .int))
def t_X_law : List (Nat × Instr × Nat) := [(0, .iload_n 1, 1), (1, .invokestatic 105, 3), (4, .ifCond .ne 5, 3), (7, .iconst (-1), 1), (8, .ireturn, 1), (9, .iload_n 2, 1), (10, .invokestatic 122, 3), (13, .ifCond .ne 6, 3), (16, .bipush (-2), 2), (18, .ireturn, 1), (19, .aload_n 0, 1), (20, .getfield 28, 3), (23, .invokevirtual 125, 3), (26, .ifCond .eq 6, 3), (29, .bipush (-4), 2), (31, .ireturn, 1), (32, .aload_n 0, 1), (33, .getfield 21, 3), (36, .invokevirtual 128, 3), (39, .istore_n 3, 1), (40, .aload_n 0, 1), (41, .getfield 21, 3), (44, .iconst 0, 1), (45, .putfield 131, 3), (48, .iload_n 3, 1), (49, .ifCond .eq 19, 3), (52, .aload_n 0, 1), (53, .getfield 28, 3), (56, .iload_n 1, 1), (57, .iload_n 2, 1), (58, .aload_n 0, 1), (59, .getfield 21, 3), (62, .invokevirtual 134, 3), (65, .goto 13, 3), (68, .bipush (-10), 2), (70, .aload_n 0, 1), (71, .getfield 21, 3), (74, .getfield 137, 3), (77, .isub, 1), (78, .ireturn, 1)]
theorem k_X_law : sv_tk m_X_law.2.1 t_X_law := by decide +kernel
theorem g_X_law : sv_G m_X_law 2 := ⟨by decide +kernel, sv_in 620 (by decide +kernel) rfl, sv_in 90 (by decide +kernel) rfl, ⟨by decide, by decide⟩, by decide +kernel, by decide⟩
theorem in_X_law : Cond.instanceMethod m_X_law.1 ∈ sv_T := sv_in 618 (by decide +kernel) rfl
theorem se_X_law : Cond.selects m_X_law.1.cls m_X_law.1 m_X_law.1 ∈ sv_T := sv_in 619 (by decide +kernel) rfl
noncomputable def F_X_law (x1 : Int32) (x2 : Int32) (s : sv_S) : Option (Int32 × sv_S) :=
  (F_X_isOwnerOrNoOne x1 s).bind fun r1 =>
  if r1 = 0 then
    some ((-1 : Int32), s)
  else
  (F_X_isDay x2 s).bind fun r2 =>
  if r2 = 0 then
    some ((-2 : Int32), s)
  else
  (F_Ls_areFull s).bind fun r3 =>
  if r3 = 0 then
    (F_Lt_parses s).bind fun r4 =>
    ss_let (ss_setI r4.2 77 3 (0 : Int32)) fun s5 =>
    if r4.1 = 0 then
      some ((-10 : Int32) - (s5.1 77 4), s5)
    else
    (F_Ls_add x1 x2 s5).bind fun r6 =>
    some (r6.1, r6.2)
  else
  some ((-4 : Int32), s)
theorem V_X_law (E : sv_E) (d : Nat) (x1 : Int32) (x2 : Int32) (s : sv_S) : sv_V E m_X_law (d + 35) ss_i 0 (lv_args 0 [sv_r E 64, .int x1, .int x2]) [] (ss_e s) (F_X_law x1 x2 s) := by
  show sv_V E m_X_law (d + 35) ss_i 0 [(0, sv_r E 64), (1, .int x1), (2, .int x2)] [] (ss_e s) _
  unfold F_X_law
  refine sv_iload_n (pc := 0) 1 (sv_d k_X_law 0 rfl) rfl rfl ?_
  refine sv_callS (pc := 1) (ψ := (ss_pi s)) (As := [.int x1]) (rest := []) (sv_d k_X_law 1 rfl) g_X_isOwnerOrNoOne w585 st_X_isOwnerOrNoOne rfl (Nat.le_of_ble_eq_true rfl) (V_X_isOwnerOrNoOne E (d + 33) x1 s) (Nat.le_of_ble_eq_true rfl) rfl (fun r1 => ?_)
  show sv_V E _ _ _ 4 _ [.int r1] (ss_e s) _
  refine sv_if_ne (pc := 4) (tgt := 9) (sv_d k_X_law 2 rfl) (by decide) ?_ ?_
  · refine sv_iload_n (pc := 9) 2 (sv_d k_X_law 5 rfl) rfl rfl ?_
    refine sv_callS (pc := 10) (ψ := (ss_pi s)) (As := [.int x2]) (rest := []) (sv_d k_X_law 6 rfl) g_X_isDay w621 st_X_isDay rfl (Nat.le_of_ble_eq_true rfl) (V_X_isDay E (d + 34) x2 s) (Nat.le_of_ble_eq_true rfl) rfl (fun r2 => ?_)
    show sv_V E _ _ _ 13 _ [.int r2] (ss_e s) _
    refine sv_if_ne (pc := 13) (tgt := 19) (sv_d k_X_law 7 rfl) (by decide) ?_ ?_
    · refine sv_aload_n (pc := 19) 0 (sv_d k_X_law 10 rfl) rfl rfl ?_
      refine sv_getf (pc := 20) 2 (sv_d k_X_law 11 rfl) cf11 (by decide) w518 kd64 (ss_lt (by decide)) (lr_64_2 E _) ?_
      refine sv_callV (pc := 23) (ψ := (ss_pi s)) (As := []) (rest := []) (c := 81) (sv_d k_X_law 12 rfl) g_Ls_areFull w624 in_Ls_areFull se_Ls_areFull cf4 kd81 (ss_lt (by decide)) rfl (Nat.le_of_ble_eq_true rfl) (V_Ls_areFull E (d + 34) s) (Nat.le_of_ble_eq_true rfl) rfl (fun r3 => ?_)
      show sv_V E _ _ _ 26 _ [.int r3] (ss_e s) _
      refine sv_if_eq (pc := 26) (tgt := 32) (sv_d k_X_law 13 rfl) (by decide) ?_ ?_
      · refine sv_aload_n (pc := 32) 0 (sv_d k_X_law 16 rfl) rfl rfl ?_
        refine sv_getf (pc := 33) 1 (sv_d k_X_law 17 rfl) cf11 (by decide) w517 kd64 (ss_lt (by decide)) (lr_64_1 E _) ?_
        refine sv_callV (pc := 36) (ψ := ss_i) (As := []) (rest := []) (c := 77) (sv_d k_X_law 18 rfl) g_Lt_parses w628 in_Lt_parses se_Lt_parses cf3 kd77 (ss_lt (by decide)) rfl (Nat.le_of_ble_eq_true rfl) (V_Lt_parses E (d + 0) s) (Nat.le_of_ble_eq_true rfl) rfl (fun r4 => ?_)
        show sv_V E _ _ _ 39 _ [.int r4.1] (ss_e r4.2) _
        refine sv_istore_n (pc := 39) (lv' := [(3, .int r4.1), (0, sv_r E 64), (1, .int x1), (2, .int x2)]) (sv_d k_X_law 19 rfl) rfl (by decide) rfl ?_
        refine sv_aload_n (pc := 40) 1 (sv_d k_X_law 20 rfl) rfl rfl ?_
        refine sv_getf (pc := 41) 1 (sv_d k_X_law 21 rfl) cf11 (by decide) w517 kd64 (ss_lt (by decide)) (lr_64_1 E _) ?_
        refine sv_iconst (pc := 44) (v := (0 : Int32)) (sv_d k_X_law 22 rfl) (by decide) ?_
        refine ss_putN (pc := 45) 3 (sv_d k_X_law 23 rfl) cf3 (by decide) rfl w160 kd77 (ss_lt (by decide)) rfl rfl (fun _ => rfl) (ss_lets (fun s5 e_s5 => ?_))
        refine sv_iload_n (pc := 48) 0 (sv_d k_X_law 24 rfl) rfl rfl ?_
        refine sv_if_eq (pc := 49) (tgt := 68) (sv_d k_X_law 25 rfl) (by decide) ?_ ?_
        · refine sv_bipush (pc := 68) (v := (-10 : Int32)) (sv_d k_X_law 34 rfl) (by decide) ?_
          refine sv_aload_n (pc := 70) 1 (sv_d k_X_law 35 rfl) rfl rfl ?_
          refine sv_getf (pc := 71) 1 (sv_d k_X_law 36 rfl) cf11 (by decide) w517 kd64 (ss_lt (by decide)) (lr_64_1 E _) ?_
          refine sv_getN (pc := 74) 4 (sv_d k_X_law 37 rfl) cf3 (by decide) w162 kd77 (ss_lt (by decide)) rfl ?_
          refine sv_isub (pc := 77) (sv_d k_X_law 38 rfl) ?_
          exact sv_ret (pc := 78) (sv_d k_X_law 39 rfl) ⟨_, rfl, rfl⟩ rfl
        · refine sv_aload_n (pc := 52) 1 (sv_d k_X_law 26 rfl) rfl rfl ?_
          refine sv_getf (pc := 53) 2 (sv_d k_X_law 27 rfl) cf11 (by decide) w518 kd64 (ss_lt (by decide)) (lr_64_2 E _) ?_
          refine sv_iload_n (pc := 56) 2 (sv_d k_X_law 28 rfl) rfl rfl ?_
          refine sv_iload_n (pc := 57) 3 (sv_d k_X_law 29 rfl) rfl rfl ?_
          refine sv_aload_n (pc := 58) 1 (sv_d k_X_law 30 rfl) rfl rfl ?_
          refine sv_getf (pc := 59) 1 (sv_d k_X_law 31 rfl) cf11 (by decide) w517 kd64 (ss_lt (by decide)) (lr_64_1 E _) ?_
          refine sv_callV (pc := 62) (ψ := ss_i) (As := [.int x1, .int x2, sv_r E 77]) (rest := []) (c := 81) (sv_d k_X_law 32 rfl) g_Ls_add w754 in_Ls_add se_Ls_add cf4 kd81 (ss_lt (by decide)) rfl (Nat.le_of_ble_eq_true rfl) (V_Ls_add E (d + 30) x1 x2 s5) (Nat.le_of_ble_eq_true rfl) rfl (fun r6 => ?_)
          show sv_V E _ _ _ 65 _ [.int r6.1] (ss_e r6.2) _
          refine sv_goto (pc := 65) (tgt := 78) (sv_d k_X_law 33 rfl) (by decide) ?_
          exact sv_ret (pc := 78) (sv_d k_X_law 39 rfl) ⟨_, rfl, rfl⟩ rfl
      · refine sv_bipush (pc := 29) (v := (-4 : Int32)) (sv_d k_X_law 14 rfl) (by decide) ?_
        exact sv_ret (pc := 31) (sv_d k_X_law 15 rfl) ⟨_, rfl, rfl⟩ rfl
    · refine sv_bipush (pc := 16) (v := (-2 : Int32)) (sv_d k_X_law 8 rfl) (by decide) ?_
      exact sv_ret (pc := 18) (sv_d k_X_law 9 rfl) ⟨_, rfl, rfl⟩ rfl
  · refine sv_iconst (pc := 7) (v := (-1 : Int32)) (sv_d k_X_law 3 rfl) (by decide) ?_
    exact sv_ret (pc := 8) (sv_d k_X_law 4 rfl) ⟨_, rfl, rfl⟩ rfl
