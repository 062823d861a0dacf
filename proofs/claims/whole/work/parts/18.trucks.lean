/-! Lw_passes -/
abbrev m_Lw_passes : sv_M := (yX2_passes, cX2_passes, 3, (some .boolean))
def t_Lw_passes : List (Nat × Instr × Nat) := [(0, .iload_n 0, 1), (1, .tableswitch (150) (0) (7) #[47, 60, 73, 86, 99, 112, 125, 138], 47), (48, .aload_n 2, 1), (49, .iconst 0, 1), (50, .iaload, 1), (51, .iload_n 1, 1), (52, .if_icmp .ne 7, 3), (55, .iconst 1, 1), (56, .goto 4, 3), (59, .iconst 0, 1), (60, .ireturn, 1), (61, .aload_n 2, 1), (62, .iconst 1, 1), (63, .iaload, 1), (64, .iload_n 1, 1), (65, .if_icmp .ne 7, 3), (68, .iconst 1, 1), (69, .goto 4, 3), (72, .iconst 0, 1), (73, .ireturn, 1), (74, .aload_n 2, 1), (75, .iconst 2, 1), (76, .iaload, 1), (77, .iload_n 1, 1), (78, .if_icmp .ne 7, 3), (81, .iconst 1, 1), (82, .goto 4, 3), (85, .iconst 0, 1), (86, .ireturn, 1), (87, .aload_n 2, 1), (88, .iconst 3, 1), (89, .iaload, 1), (90, .iload_n 1, 1), (91, .if_icmp .ge 7, 3), (94, .iconst 1, 1), (95, .goto 4, 3), (98, .iconst 0, 1), (99, .ireturn, 1), (100, .aload_n 2, 1), (101, .iconst 3, 1), (102, .iaload, 1), (103, .iload_n 1, 1), (104, .if_icmp .le 7, 3), (107, .iconst 1, 1), (108, .goto 4, 3), (111, .iconst 0, 1), (112, .ireturn, 1), (113, .aload_n 2, 1), (114, .iconst 4, 1), (115, .iaload, 1), (116, .iload_n 1, 1), (117, .if_icmp .ge 7, 3), (120, .iconst 1, 1), (121, .goto 4, 3), (124, .iconst 0, 1), (125, .ireturn, 1), (126, .aload_n 2, 1), (127, .iconst 4, 1), (128, .iaload, 1), (129, .iload_n 1, 1), (130, .if_icmp .le 7, 3), (133, .iconst 1, 1), (134, .goto 4, 3), (137, .iconst 0, 1), (138, .ireturn, 1), (139, .aload_n 2, 1), (140, .iconst 5, 1), (141, .iaload, 1), (142, .ifCond .le 7, 3), (145, .iconst 1, 1), (146, .goto 4, 3), (149, .iconst 0, 1), (150, .ireturn, 1), (151, .aload_n 2, 1), (152, .bipush 6, 2), (154, .iaload, 1), (155, .ifCond .le 7, 3), (158, .iconst 1, 1), (159, .goto 4, 3), (162, .iconst 0, 1), (163, .ireturn, 1)]
theorem k_Lw_passes : sv_tk m_Lw_passes.2.1 t_Lw_passes := by decide +kernel
theorem g_Lw_passes : sv_G m_Lw_passes 3 := ⟨by decide +kernel, sv_in 1014 (by decide +kernel) rfl, sv_in 95 (by decide +kernel) rfl, ⟨by decide, by decide⟩, by decide +kernel, by decide⟩
theorem st_Lw_passes : Cond.static m_Lw_passes.1 ∈ sv_T := sv_in 1013 (by decide +kernel) rfl
def F_Lw_passes (x0 : Int32) (x1 : Int32) (a2 : Nat) (s : sv_S) : Option (Int32) :=
  if x0 = (0 : Int32) then
    if sv_ib (0 : Int32) (ss_N s.2.2.2.1 a2) = true then
      if (s.1 a2 (0 : Int32).toNatClampNeg) = x1 then
        some (1 : Int32)
      else
      some (0 : Int32)
    else none
  else if x0 = (1 : Int32) then
    if sv_ib (1 : Int32) (ss_N s.2.2.2.1 a2) = true then
      if (s.1 a2 (1 : Int32).toNatClampNeg) = x1 then
        some (1 : Int32)
      else
      some (0 : Int32)
    else none
  else if x0 = (2 : Int32) then
    if sv_ib (2 : Int32) (ss_N s.2.2.2.1 a2) = true then
      if (s.1 a2 (2 : Int32).toNatClampNeg) = x1 then
        some (1 : Int32)
      else
      some (0 : Int32)
    else none
  else if x0 = (3 : Int32) then
    if sv_ib (3 : Int32) (ss_N s.2.2.2.1 a2) = true then
      if x1 ≤ (s.1 a2 (3 : Int32).toNatClampNeg) then
        some (0 : Int32)
      else
      some (1 : Int32)
    else none
  else if x0 = (4 : Int32) then
    if sv_ib (3 : Int32) (ss_N s.2.2.2.1 a2) = true then
      if (s.1 a2 (3 : Int32).toNatClampNeg) ≤ x1 then
        some (0 : Int32)
      else
      some (1 : Int32)
    else none
  else if x0 = (5 : Int32) then
    if sv_ib (4 : Int32) (ss_N s.2.2.2.1 a2) = true then
      if x1 ≤ (s.1 a2 (4 : Int32).toNatClampNeg) then
        some (0 : Int32)
      else
      some (1 : Int32)
    else none
  else if x0 = (6 : Int32) then
    if sv_ib (4 : Int32) (ss_N s.2.2.2.1 a2) = true then
      if (s.1 a2 (4 : Int32).toNatClampNeg) ≤ x1 then
        some (0 : Int32)
      else
      some (1 : Int32)
    else none
  else if x0 = (7 : Int32) then
    if sv_ib (5 : Int32) (ss_N s.2.2.2.1 a2) = true then
      if (s.1 a2 (5 : Int32).toNatClampNeg) ≤ 0 then
        some (0 : Int32)
      else
      some (1 : Int32)
    else none
  else 
  if sv_ib (6 : Int32) (ss_N s.2.2.2.1 a2) = true then
    if (s.1 a2 (6 : Int32).toNatClampNeg) ≤ 0 then
      some (0 : Int32)
    else
    some (1 : Int32)
  else none
theorem V_Lw_passes (E : sv_E) (d : Nat) (x0 : Int32) (x1 : Int32) (a2 : Nat) (s : sv_S) (h_a2 : ss_K a2 = 20) (o_a2 : 64 ≤ a2) (l_a2 : a2 < 243 + s.2.2.2.2.1) : sv_V E m_Lw_passes (d + 0) (ss_pi s) 0 (lv_args 0 [.int x0, .int x1, sv_r E a2]) [] (ss_e s) (F_Lw_passes x0 x1 a2 s) := by
  show sv_V E m_Lw_passes (d + 0) (ss_pi s) 0 [(0, .int x0), (1, .int x1), (2, sv_r E a2)] [] (ss_e s) _
  unfold F_Lw_passes
  refine sv_iload_n (pc := 0) 0 (sv_d k_Lw_passes 0 rfl) rfl rfl ?_
  refine ss_dec (fun hh1 => ?_) (fun hh1 => ?_)
  · refine sv_tab (pc := 1) (tgt := 48) (sv_d k_Lw_passes 1 rfl) (0 : Int32) hh1 (by decide) (by decide) rfl (by decide) ?_
    refine sv_aload_n (pc := 48) 2 (sv_d k_Lw_passes 2 rfl) rfl rfl ?_
    refine sv_iconst (pc := 49) (v := (0 : Int32)) (sv_d k_Lw_passes 3 rfl) (by decide) ?_
    refine ss_iald (pc := 50) (n := (ss_N s.2.2.2.1 a2)) (sv_d k_Lw_passes 4 rfl) h_a2 l_a2 rfl ?_
    refine sv_iload_n (pc := 51) 1 (sv_d k_Lw_passes 5 rfl) rfl rfl ?_
    refine sv_icmp_ne (pc := 52) (tgt := 59) (sv_d k_Lw_passes 6 rfl) (by decide) ?_ ?_
    · refine sv_iconst (pc := 59) (v := (0 : Int32)) (sv_d k_Lw_passes 9 rfl) (by decide) ?_
      exact sv_ret (pc := 60) (sv_d k_Lw_passes 10 rfl) ⟨_, rfl, rfl⟩ rfl
    · refine sv_iconst (pc := 55) (v := (1 : Int32)) (sv_d k_Lw_passes 7 rfl) (by decide) ?_
      refine sv_goto (pc := 56) (tgt := 60) (sv_d k_Lw_passes 8 rfl) (by decide) ?_
      exact sv_ret (pc := 60) (sv_d k_Lw_passes 10 rfl) ⟨_, rfl, rfl⟩ rfl
  · refine ss_dec (fun hh2 => ?_) (fun hh2 => ?_)
    · refine sv_tab (pc := 1) (tgt := 61) (sv_d k_Lw_passes 1 rfl) (1 : Int32) hh2 (by decide) (by decide) rfl (by decide) ?_
      refine sv_aload_n (pc := 61) 2 (sv_d k_Lw_passes 11 rfl) rfl rfl ?_
      refine sv_iconst (pc := 62) (v := (1 : Int32)) (sv_d k_Lw_passes 12 rfl) (by decide) ?_
      refine ss_iald (pc := 63) (n := (ss_N s.2.2.2.1 a2)) (sv_d k_Lw_passes 13 rfl) h_a2 l_a2 rfl ?_
      refine sv_iload_n (pc := 64) 1 (sv_d k_Lw_passes 14 rfl) rfl rfl ?_
      refine sv_icmp_ne (pc := 65) (tgt := 72) (sv_d k_Lw_passes 15 rfl) (by decide) ?_ ?_
      · refine sv_iconst (pc := 72) (v := (0 : Int32)) (sv_d k_Lw_passes 18 rfl) (by decide) ?_
        exact sv_ret (pc := 73) (sv_d k_Lw_passes 19 rfl) ⟨_, rfl, rfl⟩ rfl
      · refine sv_iconst (pc := 68) (v := (1 : Int32)) (sv_d k_Lw_passes 16 rfl) (by decide) ?_
        refine sv_goto (pc := 69) (tgt := 73) (sv_d k_Lw_passes 17 rfl) (by decide) ?_
        exact sv_ret (pc := 73) (sv_d k_Lw_passes 19 rfl) ⟨_, rfl, rfl⟩ rfl
    · refine ss_dec (fun hh3 => ?_) (fun hh3 => ?_)
      · refine sv_tab (pc := 1) (tgt := 74) (sv_d k_Lw_passes 1 rfl) (2 : Int32) hh3 (by decide) (by decide) rfl (by decide) ?_
        refine sv_aload_n (pc := 74) 2 (sv_d k_Lw_passes 20 rfl) rfl rfl ?_
        refine sv_iconst (pc := 75) (v := (2 : Int32)) (sv_d k_Lw_passes 21 rfl) (by decide) ?_
        refine ss_iald (pc := 76) (n := (ss_N s.2.2.2.1 a2)) (sv_d k_Lw_passes 22 rfl) h_a2 l_a2 rfl ?_
        refine sv_iload_n (pc := 77) 1 (sv_d k_Lw_passes 23 rfl) rfl rfl ?_
        refine sv_icmp_ne (pc := 78) (tgt := 85) (sv_d k_Lw_passes 24 rfl) (by decide) ?_ ?_
        · refine sv_iconst (pc := 85) (v := (0 : Int32)) (sv_d k_Lw_passes 27 rfl) (by decide) ?_
          exact sv_ret (pc := 86) (sv_d k_Lw_passes 28 rfl) ⟨_, rfl, rfl⟩ rfl
        · refine sv_iconst (pc := 81) (v := (1 : Int32)) (sv_d k_Lw_passes 25 rfl) (by decide) ?_
          refine sv_goto (pc := 82) (tgt := 86) (sv_d k_Lw_passes 26 rfl) (by decide) ?_
          exact sv_ret (pc := 86) (sv_d k_Lw_passes 28 rfl) ⟨_, rfl, rfl⟩ rfl
      · refine ss_dec (fun hh4 => ?_) (fun hh4 => ?_)
        · refine sv_tab (pc := 1) (tgt := 87) (sv_d k_Lw_passes 1 rfl) (3 : Int32) hh4 (by decide) (by decide) rfl (by decide) ?_
          refine sv_aload_n (pc := 87) 2 (sv_d k_Lw_passes 29 rfl) rfl rfl ?_
          refine sv_iconst (pc := 88) (v := (3 : Int32)) (sv_d k_Lw_passes 30 rfl) (by decide) ?_
          refine ss_iald (pc := 89) (n := (ss_N s.2.2.2.1 a2)) (sv_d k_Lw_passes 31 rfl) h_a2 l_a2 rfl ?_
          refine sv_iload_n (pc := 90) 1 (sv_d k_Lw_passes 32 rfl) rfl rfl ?_
          refine sv_icmp_ge (pc := 91) (tgt := 98) (sv_d k_Lw_passes 33 rfl) (by decide) ?_ ?_
          · refine sv_iconst (pc := 98) (v := (0 : Int32)) (sv_d k_Lw_passes 36 rfl) (by decide) ?_
            exact sv_ret (pc := 99) (sv_d k_Lw_passes 37 rfl) ⟨_, rfl, rfl⟩ rfl
          · refine sv_iconst (pc := 94) (v := (1 : Int32)) (sv_d k_Lw_passes 34 rfl) (by decide) ?_
            refine sv_goto (pc := 95) (tgt := 99) (sv_d k_Lw_passes 35 rfl) (by decide) ?_
            exact sv_ret (pc := 99) (sv_d k_Lw_passes 37 rfl) ⟨_, rfl, rfl⟩ rfl
        · refine ss_dec (fun hh5 => ?_) (fun hh5 => ?_)
          · refine sv_tab (pc := 1) (tgt := 100) (sv_d k_Lw_passes 1 rfl) (4 : Int32) hh5 (by decide) (by decide) rfl (by decide) ?_
            refine sv_aload_n (pc := 100) 2 (sv_d k_Lw_passes 38 rfl) rfl rfl ?_
            refine sv_iconst (pc := 101) (v := (3 : Int32)) (sv_d k_Lw_passes 39 rfl) (by decide) ?_
            refine ss_iald (pc := 102) (n := (ss_N s.2.2.2.1 a2)) (sv_d k_Lw_passes 40 rfl) h_a2 l_a2 rfl ?_
            refine sv_iload_n (pc := 103) 1 (sv_d k_Lw_passes 41 rfl) rfl rfl ?_
            refine sv_icmp_le (pc := 104) (tgt := 111) (sv_d k_Lw_passes 42 rfl) (by decide) ?_ ?_
            · refine sv_iconst (pc := 111) (v := (0 : Int32)) (sv_d k_Lw_passes 45 rfl) (by decide) ?_
              exact sv_ret (pc := 112) (sv_d k_Lw_passes 46 rfl) ⟨_, rfl, rfl⟩ rfl
            · refine sv_iconst (pc := 107) (v := (1 : Int32)) (sv_d k_Lw_passes 43 rfl) (by decide) ?_
              refine sv_goto (pc := 108) (tgt := 112) (sv_d k_Lw_passes 44 rfl) (by decide) ?_
              exact sv_ret (pc := 112) (sv_d k_Lw_passes 46 rfl) ⟨_, rfl, rfl⟩ rfl
          · refine ss_dec (fun hh6 => ?_) (fun hh6 => ?_)
            · refine sv_tab (pc := 1) (tgt := 113) (sv_d k_Lw_passes 1 rfl) (5 : Int32) hh6 (by decide) (by decide) rfl (by decide) ?_
              refine sv_aload_n (pc := 113) 2 (sv_d k_Lw_passes 47 rfl) rfl rfl ?_
              refine sv_iconst (pc := 114) (v := (4 : Int32)) (sv_d k_Lw_passes 48 rfl) (by decide) ?_
              refine ss_iald (pc := 115) (n := (ss_N s.2.2.2.1 a2)) (sv_d k_Lw_passes 49 rfl) h_a2 l_a2 rfl ?_
              refine sv_iload_n (pc := 116) 1 (sv_d k_Lw_passes 50 rfl) rfl rfl ?_
              refine sv_icmp_ge (pc := 117) (tgt := 124) (sv_d k_Lw_passes 51 rfl) (by decide) ?_ ?_
              · refine sv_iconst (pc := 124) (v := (0 : Int32)) (sv_d k_Lw_passes 54 rfl) (by decide) ?_
                exact sv_ret (pc := 125) (sv_d k_Lw_passes 55 rfl) ⟨_, rfl, rfl⟩ rfl
              · refine sv_iconst (pc := 120) (v := (1 : Int32)) (sv_d k_Lw_passes 52 rfl) (by decide) ?_
                refine sv_goto (pc := 121) (tgt := 125) (sv_d k_Lw_passes 53 rfl) (by decide) ?_
                exact sv_ret (pc := 125) (sv_d k_Lw_passes 55 rfl) ⟨_, rfl, rfl⟩ rfl
            · refine ss_dec (fun hh7 => ?_) (fun hh7 => ?_)
              · refine sv_tab (pc := 1) (tgt := 126) (sv_d k_Lw_passes 1 rfl) (6 : Int32) hh7 (by decide) (by decide) rfl (by decide) ?_
                refine sv_aload_n (pc := 126) 2 (sv_d k_Lw_passes 56 rfl) rfl rfl ?_
                refine sv_iconst (pc := 127) (v := (4 : Int32)) (sv_d k_Lw_passes 57 rfl) (by decide) ?_
                refine ss_iald (pc := 128) (n := (ss_N s.2.2.2.1 a2)) (sv_d k_Lw_passes 58 rfl) h_a2 l_a2 rfl ?_
                refine sv_iload_n (pc := 129) 1 (sv_d k_Lw_passes 59 rfl) rfl rfl ?_
                refine sv_icmp_le (pc := 130) (tgt := 137) (sv_d k_Lw_passes 60 rfl) (by decide) ?_ ?_
                · refine sv_iconst (pc := 137) (v := (0 : Int32)) (sv_d k_Lw_passes 63 rfl) (by decide) ?_
                  exact sv_ret (pc := 138) (sv_d k_Lw_passes 64 rfl) ⟨_, rfl, rfl⟩ rfl
                · refine sv_iconst (pc := 133) (v := (1 : Int32)) (sv_d k_Lw_passes 61 rfl) (by decide) ?_
                  refine sv_goto (pc := 134) (tgt := 138) (sv_d k_Lw_passes 62 rfl) (by decide) ?_
                  exact sv_ret (pc := 138) (sv_d k_Lw_passes 64 rfl) ⟨_, rfl, rfl⟩ rfl
              · refine ss_dec (fun hh8 => ?_) (fun hh8 => ?_)
                · refine sv_tab (pc := 1) (tgt := 139) (sv_d k_Lw_passes 1 rfl) (7 : Int32) hh8 (by decide) (by decide) rfl (by decide) ?_
                  refine sv_aload_n (pc := 139) 2 (sv_d k_Lw_passes 65 rfl) rfl rfl ?_
                  refine sv_iconst (pc := 140) (v := (5 : Int32)) (sv_d k_Lw_passes 66 rfl) (by decide) ?_
                  refine ss_iald (pc := 141) (n := (ss_N s.2.2.2.1 a2)) (sv_d k_Lw_passes 67 rfl) h_a2 l_a2 rfl ?_
                  refine sv_if_le (pc := 142) (tgt := 149) (sv_d k_Lw_passes 68 rfl) (by decide) ?_ ?_
                  · refine sv_iconst (pc := 149) (v := (0 : Int32)) (sv_d k_Lw_passes 71 rfl) (by decide) ?_
                    exact sv_ret (pc := 150) (sv_d k_Lw_passes 72 rfl) ⟨_, rfl, rfl⟩ rfl
                  · refine sv_iconst (pc := 145) (v := (1 : Int32)) (sv_d k_Lw_passes 69 rfl) (by decide) ?_
                    refine sv_goto (pc := 146) (tgt := 150) (sv_d k_Lw_passes 70 rfl) (by decide) ?_
                    exact sv_ret (pc := 150) (sv_d k_Lw_passes 72 rfl) ⟨_, rfl, rfl⟩ rfl
                · refine sv_tabD (pc := 1) (tgt := 151) (sv_d k_Lw_passes 1 rfl) (by rcases Int.lt_or_le (Int32.toInt x0) (0) with q | q; exact Or.inl q; have q := (sv_nlt (sv_nlt (sv_nlt (sv_nlt (sv_nlt (sv_nlt (sv_nlt (sv_nlt q (lv_neT hh1 rfl)) (lv_neT hh2 rfl)) (lv_neT hh3 rfl)) (lv_neT hh4 rfl)) (lv_neT hh5 rfl)) (lv_neT hh6 rfl)) (lv_neT hh7 rfl)) (lv_neT hh8 rfl)); exact Or.inr (by omega)) (by decide) ?_
                  refine sv_aload_n (pc := 151) 2 (sv_d k_Lw_passes 73 rfl) rfl rfl ?_
                  refine sv_bipush (pc := 152) (v := (6 : Int32)) (sv_d k_Lw_passes 74 rfl) (by decide) ?_
                  refine ss_iald (pc := 154) (n := (ss_N s.2.2.2.1 a2)) (sv_d k_Lw_passes 75 rfl) h_a2 l_a2 rfl ?_
                  refine sv_if_le (pc := 155) (tgt := 162) (sv_d k_Lw_passes 76 rfl) (by decide) ?_ ?_
                  · refine sv_iconst (pc := 162) (v := (0 : Int32)) (sv_d k_Lw_passes 79 rfl) (by decide) ?_
                    exact sv_ret (pc := 163) (sv_d k_Lw_passes 80 rfl) ⟨_, rfl, rfl⟩ rfl
                  · refine sv_iconst (pc := 158) (v := (1 : Int32)) (sv_d k_Lw_passes 77 rfl) (by decide) ?_
                    refine sv_goto (pc := 159) (tgt := 163) (sv_d k_Lw_passes 78 rfl) (by decide) ?_
                    exact sv_ret (pc := 163) (sv_d k_Lw_passes 80 rfl) ⟨_, rfl, rfl⟩ rfl
/-! Lw_judge -/
abbrev m_Lw_judge : sv_M := (yX2_judge, cX2_judge, 10, (some .boolean))
def t_Lw_judge : List (Nat × Instr × Nat) := [(0, .aload_n 0, 1), (1, .arraylength, 1), (2, .ifCond .ne 5, 3), (5, .iload_n 2, 1), (6, .ireturn, 1), (7, .lconst 0, 1), (8, .lstore_n 3, 1), (9, .aload_n 0, 1), (10, .astore 5, 2), (12, .aload 5, 2), (14, .arraylength, 1), (15, .istore 6, 2), (17, .iconst 0, 1), (18, .istore 7, 2), (20, .iload 7, 2), (22, .iload 6, 2), (24, .if_icmp .ge 102, 3), (27, .aload 5, 2), (29, .iload 7, 2), (31, .iaload, 1), (32, .istore 8, 2), (34, .iload 8, 2), (36, .sipush 10000, 3), (39, .idiv, 1), (40, .istore 9, 2), (42, .iload 9, 2), (44, .bipush 9, 2), (46, .if_icmp .ne 10, 3), (49, .lload_n 3, 1), (50, .lconst 1, 1), (51, .lxor, 1), (52, .lstore_n 3, 1), (53, .goto 67, 3), (56, .iload 9, 2), (58, .bipush 10, 2), (60, .if_icmp .ne 16, 3), (63, .lload_n 3, 1), (64, .iconst 1, 1), (65, .lshr, 1), (66, .lload_n 3, 1), (67, .ldc2_w 29, 3), (70, .lor, 1), (71, .land, 1), (72, .lstore_n 3, 1), (73, .goto 47, 3), (76, .iload 9, 2), (78, .bipush 11, 2), (80, .if_icmp .ne 14, 3), (83, .lload_n 3, 1), (84, .iconst 1, 1), (85, .lshr, 1), (86, .lload_n 3, 1), (87, .lconst 1, 1), (88, .land, 1), (89, .lor, 1), (90, .lstore_n 3, 1), (91, .goto 29, 3), (94, .lload_n 3, 1), (95, .iconst 1, 1), (96, .lshl, 1), (97, .iload 9, 2), (99, .iload 8, 2), (101, .sipush 10000, 3), (104, .irem, 1), (105, .aload_n 1, 1), (106, .invokestatic 31, 3), (109, .ifCond .eq 7, 3), (112, .iconst 1, 1), (113, .goto 4, 3), (116, .iconst 0, 1), (117, .i2l, 1), (118, .lor, 1), (119, .lstore_n 3, 1), (120, .iinc 7 1, 3), (123, .goto (-103), 3), (126, .lload_n 3, 1), (127, .lconst 1, 1), (128, .land, 1), (129, .lconst 1, 1), (130, .lcmp, 1), (131, .ifCond .ne 7, 3), (134, .iconst 1, 1), (135, .goto 4, 3), (138, .iconst 0, 1), (139, .ireturn, 1)]
theorem k_Lw_judge : sv_tk m_Lw_judge.2.1 t_Lw_judge := by decide +kernel
theorem g_Lw_judge : sv_G m_Lw_judge 3 := ⟨by decide +kernel, sv_in 1010 (by decide +kernel) rfl, sv_in 95 (by decide +kernel) rfl, ⟨by decide, by decide⟩, by decide +kernel, by decide⟩
theorem st_Lw_judge : Cond.static m_Lw_judge.1 ∈ sv_T := sv_in 1009 (by decide +kernel) rfl
def F_Lw_judge_b120 (s : sv_S) (kc20 : Nat → Int64 → Nat → Int32 → Int32 → Option (Int32)) (a1 : Nat) (y3 : Int64) (a5 : Nat) (x6 : Int32) (x7 : Int32) : Option (Int32) :=
  ss_let (x7 + (1 : Int32)) fun v6 =>
  kc20 a1 y3 a5 x6 v6
theorem V_Lw_judge_b120 (E : sv_E) (d : Nat) (s : sv_S) (kc20 : Nat → Int64 → Nat → Int32 → Int32 → Option (Int32)) (hc20 : ∀ (a1 : Nat) (y3 : Int64) (a5 : Nat) (x6 : Int32) (x7 : Int32) (h_a1 : ss_K a1 = 20) (o_a1 : 64 ≤ a1) (l_a1 : a1 < 243 + s.2.2.2.2.1) (h_a5 : ss_K a5 = 20) (o_a5 : 64 ≤ a5) (l_a5 : a5 < 243 + s.2.2.2.2.1), sv_V E m_Lw_judge (d + 1) (ss_pi s) 20 [(1, sv_r E a1), (3, .long y3), (5, sv_r E a5), (6, .int x6), (7, .int x7)] [] (ss_e s) (kc20 a1 y3 a5 x6 x7)) (a1 : Nat) (y3 : Int64) (a5 : Nat) (x6 : Int32) (x7 : Int32) (h_a1 : ss_K a1 = 20) (o_a1 : 64 ≤ a1) (l_a1 : a1 < 243 + s.2.2.2.2.1) (h_a5 : ss_K a5 = 20) (o_a5 : 64 ≤ a5) (l_a5 : a5 < 243 + s.2.2.2.2.1) : sv_V E m_Lw_judge (d + 1) (ss_pi s) 120 [(1, sv_r E a1), (3, .long y3), (5, sv_r E a5), (6, .int x6), (7, .int x7)] [] (ss_e s) (F_Lw_judge_b120 s kc20 a1 y3 a5 x6 x7) := by
  unfold F_Lw_judge_b120
  refine ss_letr (fun v6 e_v6 => ?_)
  refine sv_iinc (pc := 120) (v := v6) (lv' := [(7, .int v6), (1, sv_r E a1), (3, .long y3), (5, sv_r E a5), (6, .int x6)]) (sv_d k_Lw_judge 73 rfl) (n := 4) rfl (by rw [e_v6]; rfl) (by decide) rfl ?_
  refine sv_goto (pc := 123) (tgt := 20) (sv_d k_Lw_judge 74 rfl) (by decide) ?_
  exact sv_loc [1, 2, 3, 4, 0] rfl (hc20 a1 y3 a5 x6 v6 h_a1 o_a1 l_a1 h_a5 o_a5 l_a5)
def F_Lw_judge_b117 (s : sv_S) (kc20 : Nat → Int64 → Nat → Int32 → Int32 → Option (Int32)) (a1 : Nat) (a5 : Nat) (x6 : Int32) (x7 : Int32) (t0 : Int64) (t1 : Int32) : Option (Int32) :=
  ss_let (t0 ||| t1.toInt64) fun v5 =>
  F_Lw_judge_b120 s kc20 a1 v5 a5 x6 x7
theorem V_Lw_judge_b117 (E : sv_E) (d : Nat) (s : sv_S) (kc20 : Nat → Int64 → Nat → Int32 → Int32 → Option (Int32)) (hc20 : ∀ (a1 : Nat) (y3 : Int64) (a5 : Nat) (x6 : Int32) (x7 : Int32) (h_a1 : ss_K a1 = 20) (o_a1 : 64 ≤ a1) (l_a1 : a1 < 243 + s.2.2.2.2.1) (h_a5 : ss_K a5 = 20) (o_a5 : 64 ≤ a5) (l_a5 : a5 < 243 + s.2.2.2.2.1), sv_V E m_Lw_judge (d + 1) (ss_pi s) 20 [(1, sv_r E a1), (3, .long y3), (5, sv_r E a5), (6, .int x6), (7, .int x7)] [] (ss_e s) (kc20 a1 y3 a5 x6 x7)) (a1 : Nat) (a5 : Nat) (x6 : Int32) (x7 : Int32) (t0 : Int64) (t1 : Int32) (h_a1 : ss_K a1 = 20) (o_a1 : 64 ≤ a1) (l_a1 : a1 < 243 + s.2.2.2.2.1) (h_a5 : ss_K a5 = 20) (o_a5 : 64 ≤ a5) (l_a5 : a5 < 243 + s.2.2.2.2.1) : sv_V E m_Lw_judge (d + 1) (ss_pi s) 117 [(1, sv_r E a1), (5, sv_r E a5), (6, .int x6), (7, .int x7)] [.int t1, .long t0] (ss_e s) (F_Lw_judge_b117 s kc20 a1 a5 x6 x7 t0 t1) := by
  unfold F_Lw_judge_b117
  refine sv_i2l (pc := 117) (sv_d k_Lw_judge 70 rfl) ?_
  refine sv_lor (pc := 118) (sv_d k_Lw_judge 71 rfl) ?_
  refine ss_topL (fun v5 e_v5 => ?_)
  refine sv_lstore_n (pc := 119) (lv' := [(3, .long v5), (1, sv_r E a1), (5, sv_r E a5), (6, .int x6), (7, .int x7)]) (sv_d k_Lw_judge 72 rfl) rfl (by decide) rfl ?_
  exact sv_loc [1, 0, 2, 3, 4] rfl (V_Lw_judge_b120 E d s kc20 hc20 a1 v5 a5 x6 x7 h_a1 o_a1 l_a1 h_a5 o_a5 l_a5)
def F_Lw_judge_b20 (s : sv_S) : Nat → Nat → Int64 → Nat → Int32 → Int32 → Option (Int32)
  | 0 => fun _ _ _ _ _ => none
  | n + 1 => fun a1 y3 a5 x6 x7 =>
    if x6 ≤ x7 then
      if (lg_cmp (y3 &&& (1 : Int64)) (1 : Int64)) = 0 then
        some (1 : Int32)
      else
      some (0 : Int32)
    else
    if sv_ib x7 (ss_N s.2.2.2.1 a5) = true then
      ss_let (s.1 a5 x7.toNatClampNeg) fun v2 =>
      ss_let (v2 / (10000 : Int32)) fun v3 =>
      if v3 = (9 : Int32) then
        ss_let (y3 ^^^ (1 : Int64)) fun v9 =>
        F_Lw_judge_b120 s (F_Lw_judge_b20 s n) a1 v9 a5 x6 x7
      else
      if v3 = (10 : Int32) then
        ss_let ((y3 >>> ((1 : Int32).toInt64 &&& 63)) &&& (y3 ||| (-2 : Int64))) fun v8 =>
        F_Lw_judge_b120 s (F_Lw_judge_b20 s n) a1 v8 a5 x6 x7
      else
      if v3 = (11 : Int32) then
        ss_let ((y3 >>> ((1 : Int32).toInt64 &&& 63)) ||| (y3 &&& (1 : Int64))) fun v7 =>
        F_Lw_judge_b120 s (F_Lw_judge_b20 s n) a1 v7 a5 x6 x7
      else
      (F_Lw_passes v3 (v2 - v2 / (10000 : Int32) * (10000 : Int32)) a1 s).bind fun r4 =>
      if r4 = 0 then
        F_Lw_judge_b117 s (F_Lw_judge_b20 s n) a1 a5 x6 x7 (y3 <<< ((1 : Int32).toInt64 &&& 63)) (0 : Int32)
      else
      F_Lw_judge_b117 s (F_Lw_judge_b20 s n) a1 a5 x6 x7 (y3 <<< ((1 : Int32).toInt64 &&& 63)) (1 : Int32)
    else none
theorem V_Lw_judge_b20 (E : sv_E) (d : Nat) (s : sv_S) : ∀ (n : Nat) (a1 : Nat) (y3 : Int64) (a5 : Nat) (x6 : Int32) (x7 : Int32) (h_a1 : ss_K a1 = 20) (o_a1 : 64 ≤ a1) (l_a1 : a1 < 243 + s.2.2.2.2.1) (h_a5 : ss_K a5 = 20) (o_a5 : 64 ≤ a5) (l_a5 : a5 < 243 + s.2.2.2.2.1), sv_V E m_Lw_judge (d + 1) (ss_pi s) 20 [(1, sv_r E a1), (3, .long y3), (5, sv_r E a5), (6, .int x6), (7, .int x7)] [] (ss_e s) (F_Lw_judge_b20 s n a1 y3 a5 x6 x7) := by
  intro n
  induction n with
  | zero => intro a1 y3 a5 x6 x7 h_a1 o_a1 l_a1 h_a5 o_a5 l_a5; exact sv_none
  | succ n ih =>
    intro a1 y3 a5 x6 x7 h_a1 o_a1 l_a1 h_a5 o_a5 l_a5
    unfold F_Lw_judge_b20
    refine sv_iload (pc := 20) 4 (sv_d k_Lw_judge 14 rfl) rfl ?_
    refine sv_iload (pc := 22) 3 (sv_d k_Lw_judge 15 rfl) rfl ?_
    refine sv_icmp_ge (pc := 24) (tgt := 126) (sv_d k_Lw_judge 16 rfl) (by decide) ?_ ?_
    · refine sv_lload_n (pc := 126) 1 (sv_d k_Lw_judge 75 rfl) rfl rfl ?_
      refine sv_lconst (pc := 127) (v := (1 : Int64)) (sv_d k_Lw_judge 76 rfl) (by decide) ?_
      refine sv_land (pc := 128) (sv_d k_Lw_judge 77 rfl) ?_
      refine sv_lconst (pc := 129) (v := (1 : Int64)) (sv_d k_Lw_judge 78 rfl) (by decide) ?_
      refine sv_lcmp (pc := 130) (sv_d k_Lw_judge 79 rfl) ?_
      refine sv_if_ne (pc := 131) (tgt := 138) (sv_d k_Lw_judge 80 rfl) (by decide) ?_ ?_
      · refine sv_iconst (pc := 138) (v := (0 : Int32)) (sv_d k_Lw_judge 83 rfl) (by decide) ?_
        exact sv_ret (pc := 139) (sv_d k_Lw_judge 84 rfl) ⟨_, rfl, rfl⟩ rfl
      · refine sv_iconst (pc := 134) (v := (1 : Int32)) (sv_d k_Lw_judge 81 rfl) (by decide) ?_
        refine sv_goto (pc := 135) (tgt := 139) (sv_d k_Lw_judge 82 rfl) (by decide) ?_
        exact sv_ret (pc := 139) (sv_d k_Lw_judge 84 rfl) ⟨_, rfl, rfl⟩ rfl
    · refine sv_aload (pc := 27) 2 (sv_d k_Lw_judge 17 rfl) rfl ?_
      refine sv_iload (pc := 29) 4 (sv_d k_Lw_judge 18 rfl) rfl ?_
      refine ss_iald (pc := 31) (n := (ss_N s.2.2.2.1 a5)) (sv_d k_Lw_judge 19 rfl) h_a5 l_a5 rfl ?_
      refine ss_top (fun v2 e_v2 => ?_)
      refine sv_istore (pc := 32) (lv' := [(8, .int v2), (1, sv_r E a1), (3, .long y3), (5, sv_r E a5), (6, .int x6), (7, .int x7)]) (sv_d k_Lw_judge 20 rfl) (by decide) rfl ?_
      refine sv_iload (pc := 34) 0 (sv_d k_Lw_judge 21 rfl) rfl ?_
      refine sv_sipush (pc := 36) (v := (10000 : Int32)) (sv_d k_Lw_judge 22 rfl) (by decide) ?_
      refine sv_idivK (pc := 39) (sv_d k_Lw_judge 23 rfl) (by decide) ?_
      refine ss_top (fun v3 e_v3 => ?_)
      refine sv_istore (pc := 40) (lv' := [(9, .int v3), (8, .int v2), (1, sv_r E a1), (3, .long y3), (5, sv_r E a5), (6, .int x6), (7, .int x7)]) (sv_d k_Lw_judge 24 rfl) (by decide) rfl ?_
      refine sv_iload (pc := 42) 0 (sv_d k_Lw_judge 25 rfl) rfl ?_
      refine sv_bipush (pc := 44) (v := (9 : Int32)) (sv_d k_Lw_judge 26 rfl) (by decide) ?_
      refine sv_icmp_ne (pc := 46) (tgt := 56) (sv_d k_Lw_judge 27 rfl) (by decide) ?_ ?_
      · refine sv_iload (pc := 56) 0 (sv_d k_Lw_judge 33 rfl) rfl ?_
        refine sv_bipush (pc := 58) (v := (10 : Int32)) (sv_d k_Lw_judge 34 rfl) (by decide) ?_
        refine sv_icmp_ne (pc := 60) (tgt := 76) (sv_d k_Lw_judge 35 rfl) (by decide) ?_ ?_
        · refine sv_iload (pc := 76) 0 (sv_d k_Lw_judge 45 rfl) rfl ?_
          refine sv_bipush (pc := 78) (v := (11 : Int32)) (sv_d k_Lw_judge 46 rfl) (by decide) ?_
          refine sv_icmp_ne (pc := 80) (tgt := 94) (sv_d k_Lw_judge 47 rfl) (by decide) ?_ ?_
          · refine sv_lload_n (pc := 94) 3 (sv_d k_Lw_judge 57 rfl) rfl rfl ?_
            refine sv_iconst (pc := 95) (v := (1 : Int32)) (sv_d k_Lw_judge 58 rfl) (by decide) ?_
            refine sv_lshl (pc := 96) (sv_d k_Lw_judge 59 rfl) ?_
            refine sv_iload (pc := 97) 0 (sv_d k_Lw_judge 60 rfl) rfl ?_
            refine sv_iload (pc := 99) 1 (sv_d k_Lw_judge 61 rfl) rfl ?_
            refine sv_sipush (pc := 101) (v := (10000 : Int32)) (sv_d k_Lw_judge 62 rfl) (by decide) ?_
            refine sv_iremK (pc := 104) (sv_d k_Lw_judge 63 rfl) (by decide) ?_
            refine sv_aload_n (pc := 105) 2 (sv_d k_Lw_judge 64 rfl) rfl rfl ?_
            refine sv_callS (pc := 106) (ψ := (ss_pi s)) (As := [.int v3, .int (v2 - v2 / (10000 : Int32) * (10000 : Int32)), sv_r E a1]) (rest := [.long (y3 <<< ((1 : Int32).toInt64 &&& 63))]) (sv_d k_Lw_judge 65 rfl) g_Lw_passes w1012 st_Lw_passes rfl (Nat.le_of_ble_eq_true rfl) (V_Lw_passes E (d + 0) v3 (v2 - v2 / (10000 : Int32) * (10000 : Int32)) a1 s h_a1 o_a1 l_a1) (Nat.le_of_ble_eq_true rfl) rfl (fun r4 => ?_)
            show sv_V E _ _ _ 109 _ [.int r4, .long (y3 <<< ((1 : Int32).toInt64 &&& 63))] (ss_e s) _
            refine sv_if_eq (pc := 109) (tgt := 116) (sv_d k_Lw_judge 66 rfl) (by decide) ?_ ?_
            · refine sv_iconst (pc := 116) (v := (0 : Int32)) (sv_d k_Lw_judge 69 rfl) (by decide) ?_
              exact sv_loc [2, 4, 5, 6] rfl (V_Lw_judge_b117 E d s (F_Lw_judge_b20 s n) ih a1 a5 x6 x7 (y3 <<< ((1 : Int32).toInt64 &&& 63)) (0 : Int32) h_a1 o_a1 l_a1 h_a5 o_a5 l_a5)
            · refine sv_iconst (pc := 112) (v := (1 : Int32)) (sv_d k_Lw_judge 67 rfl) (by decide) ?_
              refine sv_goto (pc := 113) (tgt := 117) (sv_d k_Lw_judge 68 rfl) (by decide) ?_
              exact sv_loc [2, 4, 5, 6] rfl (V_Lw_judge_b117 E d s (F_Lw_judge_b20 s n) ih a1 a5 x6 x7 (y3 <<< ((1 : Int32).toInt64 &&& 63)) (1 : Int32) h_a1 o_a1 l_a1 h_a5 o_a5 l_a5)
          · refine sv_lload_n (pc := 83) 3 (sv_d k_Lw_judge 48 rfl) rfl rfl ?_
            refine sv_iconst (pc := 84) (v := (1 : Int32)) (sv_d k_Lw_judge 49 rfl) (by decide) ?_
            refine sv_lshr (pc := 85) (sv_d k_Lw_judge 50 rfl) ?_
            refine sv_lload_n (pc := 86) 3 (sv_d k_Lw_judge 51 rfl) rfl rfl ?_
            refine sv_lconst (pc := 87) (v := (1 : Int64)) (sv_d k_Lw_judge 52 rfl) (by decide) ?_
            refine sv_land (pc := 88) (sv_d k_Lw_judge 53 rfl) ?_
            refine sv_lor (pc := 89) (sv_d k_Lw_judge 54 rfl) ?_
            refine ss_topL (fun v7 e_v7 => ?_)
            refine sv_lstore_n (pc := 90) (lv' := [(3, .long v7), (9, .int v3), (8, .int v2), (1, sv_r E a1), (5, sv_r E a5), (6, .int x6), (7, .int x7)]) (sv_d k_Lw_judge 55 rfl) rfl (by decide) rfl ?_
            refine sv_goto (pc := 91) (tgt := 120) (sv_d k_Lw_judge 56 rfl) (by decide) ?_
            exact sv_loc [3, 0, 4, 5, 6] rfl (V_Lw_judge_b120 E d s (F_Lw_judge_b20 s n) ih a1 v7 a5 x6 x7 h_a1 o_a1 l_a1 h_a5 o_a5 l_a5)
        · refine sv_lload_n (pc := 63) 3 (sv_d k_Lw_judge 36 rfl) rfl rfl ?_
          refine sv_iconst (pc := 64) (v := (1 : Int32)) (sv_d k_Lw_judge 37 rfl) (by decide) ?_
          refine sv_lshr (pc := 65) (sv_d k_Lw_judge 38 rfl) ?_
          refine sv_lload_n (pc := 66) 3 (sv_d k_Lw_judge 39 rfl) rfl rfl ?_
          refine sv_ldc2 (pc := 67) (v := (-2 : Int64)) w1011 (sv_d k_Lw_judge 40 rfl) ?_
          refine sv_lor (pc := 70) (sv_d k_Lw_judge 41 rfl) ?_
          refine sv_land (pc := 71) (sv_d k_Lw_judge 42 rfl) ?_
          refine ss_topL (fun v8 e_v8 => ?_)
          refine sv_lstore_n (pc := 72) (lv' := [(3, .long v8), (9, .int v3), (8, .int v2), (1, sv_r E a1), (5, sv_r E a5), (6, .int x6), (7, .int x7)]) (sv_d k_Lw_judge 43 rfl) rfl (by decide) rfl ?_
          refine sv_goto (pc := 73) (tgt := 120) (sv_d k_Lw_judge 44 rfl) (by decide) ?_
          exact sv_loc [3, 0, 4, 5, 6] rfl (V_Lw_judge_b120 E d s (F_Lw_judge_b20 s n) ih a1 v8 a5 x6 x7 h_a1 o_a1 l_a1 h_a5 o_a5 l_a5)
      · refine sv_lload_n (pc := 49) 3 (sv_d k_Lw_judge 28 rfl) rfl rfl ?_
        refine sv_lconst (pc := 50) (v := (1 : Int64)) (sv_d k_Lw_judge 29 rfl) (by decide) ?_
        refine sv_lxor (pc := 51) (sv_d k_Lw_judge 30 rfl) ?_
        refine ss_topL (fun v9 e_v9 => ?_)
        refine sv_lstore_n (pc := 52) (lv' := [(3, .long v9), (9, .int v3), (8, .int v2), (1, sv_r E a1), (5, sv_r E a5), (6, .int x6), (7, .int x7)]) (sv_d k_Lw_judge 31 rfl) rfl (by decide) rfl ?_
        refine sv_goto (pc := 53) (tgt := 120) (sv_d k_Lw_judge 32 rfl) (by decide) ?_
        exact sv_loc [3, 0, 4, 5, 6] rfl (V_Lw_judge_b120 E d s (F_Lw_judge_b20 s n) ih a1 v9 a5 x6 x7 h_a1 o_a1 l_a1 h_a5 o_a5 l_a5)
def F_Lw_judge (a0 : Nat) (a1 : Nat) (x2 : Int32) (s : sv_S) : Option (Int32) :=
  if (Int32.ofNat (ss_N s.2.2.2.1 a0)) = 0 then
    if sv_bl x2 = true then some x2 else none
  else
  ss_let (Int32.ofNat (ss_N s.2.2.2.1 a0)) fun v1 =>
  F_Lw_judge_b20 s ss_F a1 (0 : Int64) a0 v1 (0 : Int32)
theorem V_Lw_judge (E : sv_E) (d : Nat) (a0 : Nat) (a1 : Nat) (x2 : Int32) (s : sv_S) (h_a0 : ss_K a0 = 20) (o_a0 : 64 ≤ a0) (l_a0 : a0 < 243 + s.2.2.2.2.1) (h_a1 : ss_K a1 = 20) (o_a1 : 64 ≤ a1) (l_a1 : a1 < 243 + s.2.2.2.2.1) : sv_V E m_Lw_judge (d + 1) (ss_pi s) 0 (lv_args 0 [sv_r E a0, sv_r E a1, .int x2]) [] (ss_e s) (F_Lw_judge a0 a1 x2 s) := by
  show sv_V E m_Lw_judge (d + 1) (ss_pi s) 0 [(0, sv_r E a0), (1, sv_r E a1), (2, .int x2)] [] (ss_e s) _
  unfold F_Lw_judge
  refine sv_aload_n (pc := 0) 0 (sv_d k_Lw_judge 0 rfl) rfl rfl ?_
  refine ss_alen (pc := 1) (v := (Int32.ofNat (ss_N s.2.2.2.1 a0))) (sv_d k_Lw_judge 1 rfl) h_a0 (by decide) (by decide) l_a0 rfl ?_
  refine sv_if_ne (pc := 2) (tgt := 7) (sv_d k_Lw_judge 2 rfl) (by decide) ?_ ?_
  · refine sv_lconst (pc := 7) (v := (0 : Int64)) (sv_d k_Lw_judge 5 rfl) (by decide) ?_
    refine sv_lstore_n (pc := 8) (lv' := [(3, .long (0 : Int64)), (0, sv_r E a0), (1, sv_r E a1), (2, .int x2)]) (sv_d k_Lw_judge 6 rfl) rfl (by decide) rfl ?_
    refine sv_aload_n (pc := 9) 1 (sv_d k_Lw_judge 7 rfl) rfl rfl ?_
    refine sv_astore (pc := 10) (lv' := [(5, sv_r E a0), (3, .long (0 : Int64)), (0, sv_r E a0), (1, sv_r E a1), (2, .int x2)]) (sv_d k_Lw_judge 8 rfl) (by decide) rfl ?_
    refine sv_aload (pc := 12) 0 (sv_d k_Lw_judge 9 rfl) rfl ?_
    refine ss_alen (pc := 14) (v := (Int32.ofNat (ss_N s.2.2.2.1 a0))) (sv_d k_Lw_judge 10 rfl) h_a0 (by decide) (by decide) l_a0 rfl ?_
    refine ss_top (fun v1 e_v1 => ?_)
    refine sv_istore (pc := 15) (lv' := [(6, .int v1), (5, sv_r E a0), (3, .long (0 : Int64)), (0, sv_r E a0), (1, sv_r E a1), (2, .int x2)]) (sv_d k_Lw_judge 11 rfl) (by decide) rfl ?_
    refine sv_iconst (pc := 17) (v := (0 : Int32)) (sv_d k_Lw_judge 12 rfl) (by decide) ?_
    refine sv_istore (pc := 18) (lv' := [(7, .int (0 : Int32)), (6, .int v1), (5, sv_r E a0), (3, .long (0 : Int64)), (0, sv_r E a0), (1, sv_r E a1), (2, .int x2)]) (sv_d k_Lw_judge 13 rfl) (by decide) rfl ?_
    exact sv_loc [5, 3, 2, 1, 0] rfl (V_Lw_judge_b20 E d s ss_F a1 (0 : Int64) a0 v1 (0 : Int32) h_a1 o_a1 l_a1 h_a0 o_a0 l_a0)
  · refine sv_iload_n (pc := 5) 2 (sv_d k_Lw_judge 3 rfl) rfl rfl ?_
    exact ss_grd (fun bb10 => sv_ret (pc := 6) (sv_d k_Lw_judge 4 rfl) ⟨_, rfl, sv_bln bb10⟩ rfl)
/-! Tr_has -/
abbrev m_Tr_has : sv_M := (yX9_has, cX9_has, 2, (some .boolean))
def t_Tr_has : List (Nat × Instr × Nat) := [(0, .iload_n 1, 1), (1, .ifCond .lt 15, 3), (4, .iload_n 1, 1), (5, .aload_n 0, 1), (6, .getfield 43, 3), (9, .if_icmp .ge 7, 3), (12, .iconst 1, 1), (13, .goto 4, 3), (16, .iconst 0, 1), (17, .ireturn, 1)]
theorem k_Tr_has : sv_tk m_Tr_has.2.1 t_Tr_has := by decide +kernel
theorem g_Tr_has : sv_G m_Tr_has 1 := ⟨by decide +kernel, sv_in 971 (by decide +kernel) rfl, sv_in 98 (by decide +kernel) rfl, ⟨by decide, by decide⟩, by decide +kernel, by decide⟩
theorem in_Tr_has : Cond.instanceMethod m_Tr_has.1 ∈ sv_T := sv_in 969 (by decide +kernel) rfl
theorem se_Tr_has : Cond.selects m_Tr_has.1.cls m_Tr_has.1 m_Tr_has.1 ∈ sv_T := sv_in 970 (by decide +kernel) rfl
def F_Tr_has (x1 : Int32) (s : sv_S) : Option (Int32) :=
  if x1 < 0 then
    some (0 : Int32)
  else
  if (s.1 151 10) ≤ x1 then
    some (0 : Int32)
  else
  some (1 : Int32)
theorem V_Tr_has (E : sv_E) (d : Nat) (x1 : Int32) (s : sv_S) : sv_V E m_Tr_has (d + 0) (ss_pi s) 0 (lv_args 0 [sv_r E 151, .int x1]) [] (ss_e s) (F_Tr_has x1 s) := by
  show sv_V E m_Tr_has (d + 0) (ss_pi s) 0 [(0, sv_r E 151), (1, .int x1)] [] (ss_e s) _
  unfold F_Tr_has
  refine sv_iload_n (pc := 0) 1 (sv_d k_Tr_has 0 rfl) rfl rfl ?_
  refine sv_if_lt (pc := 1) (tgt := 16) (sv_d k_Tr_has 1 rfl) (by decide) ?_ ?_
  · refine sv_iconst (pc := 16) (v := (0 : Int32)) (sv_d k_Tr_has 8 rfl) (by decide) ?_
    exact sv_ret (pc := 17) (sv_d k_Tr_has 9 rfl) ⟨_, rfl, rfl⟩ rfl
  · refine sv_iload_n (pc := 4) 1 (sv_d k_Tr_has 2 rfl) rfl rfl ?_
    refine sv_aload_n (pc := 5) 0 (sv_d k_Tr_has 3 rfl) rfl rfl ?_
    refine sv_getf (pc := 6) 10 (sv_d k_Tr_has 4 rfl) cf9 (by decide) w361 kd151 (ss_lt (by decide)) rfl ?_
    refine sv_icmp_ge (pc := 9) (tgt := 16) (sv_d k_Tr_has 5 rfl) (by decide) ?_ ?_
    · refine sv_iconst (pc := 16) (v := (0 : Int32)) (sv_d k_Tr_has 8 rfl) (by decide) ?_
      exact sv_ret (pc := 17) (sv_d k_Tr_has 9 rfl) ⟨_, rfl, rfl⟩ rfl
    · refine sv_iconst (pc := 12) (v := (1 : Int32)) (sv_d k_Tr_has 6 rfl) (by decide) ?_
      refine sv_goto (pc := 13) (tgt := 17) (sv_d k_Tr_has 7 rfl) (by decide) ?_
      exact sv_ret (pc := 17) (sv_d k_Tr_has 9 rfl) ⟨_, rfl, rfl⟩ rfl
/-! Tr_areFull -/
abbrev m_Tr_areFull : sv_M := (yX9_areFull, cX9_areFull, 1, (some .boolean))
def t_Tr_areFull : List (Nat × Instr × Nat) := [(0, .aload_n 0, 1), (1, .getfield 43, 3), (4, .bipush 80, 2), (6, .if_icmp .lt 7, 3), (9, .iconst 1, 1), (10, .goto 4, 3), (13, .iconst 0, 1), (14, .ireturn, 1)]
theorem k_Tr_areFull : sv_tk m_Tr_areFull.2.1 t_Tr_areFull := by decide +kernel
theorem g_Tr_areFull : sv_G m_Tr_areFull 0 := ⟨by decide +kernel, sv_in 943 (by decide +kernel) rfl, sv_in 98 (by decide +kernel) rfl, ⟨by decide, by decide⟩, by decide +kernel, by decide⟩
theorem in_Tr_areFull : Cond.instanceMethod m_Tr_areFull.1 ∈ sv_T := sv_in 941 (by decide +kernel) rfl
theorem se_Tr_areFull : Cond.selects m_Tr_areFull.1.cls m_Tr_areFull.1 m_Tr_areFull.1 ∈ sv_T := sv_in 942 (by decide +kernel) rfl
def F_Tr_areFull (s : sv_S) : Option (Int32) :=
  if (s.1 151 10) < (80 : Int32) then
    some (0 : Int32)
  else
  some (1 : Int32)
theorem V_Tr_areFull (E : sv_E) (d : Nat) (s : sv_S) : sv_V E m_Tr_areFull (d + 0) (ss_pi s) 0 (lv_args 0 [sv_r E 151]) [] (ss_e s) (F_Tr_areFull s) := by
  show sv_V E m_Tr_areFull (d + 0) (ss_pi s) 0 [(0, sv_r E 151)] [] (ss_e s) _
  unfold F_Tr_areFull
  refine sv_aload_n (pc := 0) 0 (sv_d k_Tr_areFull 0 rfl) rfl rfl ?_
  refine sv_getf (pc := 1) 10 (sv_d k_Tr_areFull 1 rfl) cf9 (by decide) w361 kd151 (ss_lt (by decide)) rfl ?_
  refine sv_bipush (pc := 4) (v := (80 : Int32)) (sv_d k_Tr_areFull 2 rfl) (by decide) ?_
  refine sv_icmp_lt (pc := 6) (tgt := 13) (sv_d k_Tr_areFull 3 rfl) (by decide) ?_ ?_
  · refine sv_iconst (pc := 13) (v := (0 : Int32)) (sv_d k_Tr_areFull 6 rfl) (by decide) ?_
    exact sv_ret (pc := 14) (sv_d k_Tr_areFull 7 rfl) ⟨_, rfl, rfl⟩ rfl
  · refine sv_iconst (pc := 9) (v := (1 : Int32)) (sv_d k_Tr_areFull 4 rfl) (by decide) ?_
    refine sv_goto (pc := 10) (tgt := 14) (sv_d k_Tr_areFull 5 rfl) (by decide) ?_
    exact sv_ret (pc := 14) (sv_d k_Tr_areFull 7 rfl) ⟨_, rfl, rfl⟩ rfl
/-! Tr_add -/
abbrev m_Tr_add : sv_M := (yX9_add, cX9_add, 6, (some .int))
def t_Tr_add : List (Nat × Instr × Nat) := [(0, .aload_n 0, 1), (1, .getfield 11, 3), (4, .aload_n 0, 1), (5, .getfield 43, 3), (8, .iload_n 1, 1), (9, .iastore, 1), (10, .aload_n 0, 1), (11, .getfield 15, 3), (14, .aload_n 0, 1), (15, .getfield 43, 3), (18, .iload_n 2, 1), (19, .iastore, 1), (20, .aload_n 0, 1), (21, .getfield 18, 3), (24, .aload_n 0, 1), (25, .getfield 43, 3), (28, .iload_n 3, 1), (29, .iastore, 1), (30, .aload_n 0, 1), (31, .getfield 21, 3), (34, .aload_n 0, 1), (35, .getfield 43, 3), (38, .iload 4, 2), (40, .iastore, 1), (41, .aload_n 0, 1), (42, .getfield 24, 3), (45, .aload_n 0, 1), (46, .getfield 43, 3), (49, .iload 5, 2), (51, .iastore, 1), (52, .aload_n 0, 1), (53, .dup, 1), (54, .getfield 43, 3), (57, .dup_x1, 1), (58, .iconst 1, 1), (59, .iadd, 1), (60, .putfield 43, 3), (63, .ireturn, 1)]
theorem k_Tr_add : sv_tk m_Tr_add.2.1 t_Tr_add := by decide +kernel
theorem g_Tr_add : sv_G m_Tr_add 5 := ⟨by decide +kernel, sv_in 947 (by decide +kernel) rfl, sv_in 98 (by decide +kernel) rfl, ⟨by decide, by decide⟩, by decide +kernel, by decide⟩
theorem in_Tr_add : Cond.instanceMethod m_Tr_add.1 ∈ sv_T := sv_in 945 (by decide +kernel) rfl
theorem se_Tr_add : Cond.selects m_Tr_add.1.cls m_Tr_add.1 m_Tr_add.1 ∈ sv_T := sv_in 946 (by decide +kernel) rfl
def F_Tr_add (x1 : Int32) (x2 : Int32) (x3 : Int32) (x4 : Int32) (x5 : Int32) (s : sv_S) : Option (Int32 × sv_S) :=
  if sv_ib (s.1 151 10) 80 = true then
    ss_let (ss_setI s 152 (s.1 151 10).toNatClampNeg x1) fun s1 =>
    if sv_ib (s1.1 151 10) 80 = true then
      ss_let (ss_setI s1 153 (s1.1 151 10).toNatClampNeg x2) fun s2 =>
      if sv_ib (s2.1 151 10) 80 = true then
        ss_let (ss_setI s2 154 (s2.1 151 10).toNatClampNeg x3) fun s3 =>
        if sv_ib (s3.1 151 10) 80 = true then
          ss_let (ss_setI s3 155 (s3.1 151 10).toNatClampNeg x4) fun s4 =>
          if sv_ib (s4.1 151 10) 80 = true then
            ss_let (ss_setI s4 156 (s4.1 151 10).toNatClampNeg x5) fun s5 =>
            ss_let (ss_setI s5 151 10 ((s5.1 151 10) + (1 : Int32))) fun s6 =>
            some (s5.1 151 10, s6)
          else none
        else none
      else none
    else none
  else none
theorem V_Tr_add (E : sv_E) (d : Nat) (x1 : Int32) (x2 : Int32) (x3 : Int32) (x4 : Int32) (x5 : Int32) (s : sv_S) : sv_V E m_Tr_add (d + 0) ss_i 0 (lv_args 0 [sv_r E 151, .int x1, .int x2, .int x3, .int x4, .int x5]) [] (ss_e s) (F_Tr_add x1 x2 x3 x4 x5 s) := by
  show sv_V E m_Tr_add (d + 0) ss_i 0 [(0, sv_r E 151), (1, .int x1), (2, .int x2), (3, .int x3), (4, .int x4), (5, .int x5)] [] (ss_e s) _
  unfold F_Tr_add
  refine sv_aload_n (pc := 0) 0 (sv_d k_Tr_add 0 rfl) rfl rfl ?_
  refine sv_getf (pc := 1) 2 (sv_d k_Tr_add 1 rfl) cf9 (by decide) w353 kd151 (ss_lt (by decide)) (lr_151_2 E _) ?_
  refine sv_aload_n (pc := 4) 0 (sv_d k_Tr_add 2 rfl) rfl rfl ?_
  refine sv_getf (pc := 5) 10 (sv_d k_Tr_add 3 rfl) cf9 (by decide) w361 kd151 (ss_lt (by decide)) rfl ?_
  refine sv_iload_n (pc := 8) 1 (sv_d k_Tr_add 4 rfl) rfl rfl ?_
  refine ss_iast (pc := 9) (n := 80) (sv_d k_Tr_add 5 rfl) kd152 (by decide) (ss_lt (by decide)) rfl (ss_lets (fun s1 e_s1 => ?_))
  refine sv_aload_n (pc := 10) 0 (sv_d k_Tr_add 6 rfl) rfl rfl ?_
  refine sv_getf (pc := 11) 3 (sv_d k_Tr_add 7 rfl) cf9 (by decide) w354 kd151 (ss_lt (by decide)) (lr_151_3 E _) ?_
  refine sv_aload_n (pc := 14) 0 (sv_d k_Tr_add 8 rfl) rfl rfl ?_
  refine sv_getf (pc := 15) 10 (sv_d k_Tr_add 9 rfl) cf9 (by decide) w361 kd151 (ss_lt (by decide)) rfl ?_
  refine sv_iload_n (pc := 18) 2 (sv_d k_Tr_add 10 rfl) rfl rfl ?_
  refine ss_iast (pc := 19) (n := 80) (sv_d k_Tr_add 11 rfl) kd153 (by decide) (ss_lt (by decide)) rfl (ss_lets (fun s2 e_s2 => ?_))
  refine sv_aload_n (pc := 20) 0 (sv_d k_Tr_add 12 rfl) rfl rfl ?_
  refine sv_getf (pc := 21) 4 (sv_d k_Tr_add 13 rfl) cf9 (by decide) w355 kd151 (ss_lt (by decide)) (lr_151_4 E _) ?_
  refine sv_aload_n (pc := 24) 0 (sv_d k_Tr_add 14 rfl) rfl rfl ?_
  refine sv_getf (pc := 25) 10 (sv_d k_Tr_add 15 rfl) cf9 (by decide) w361 kd151 (ss_lt (by decide)) rfl ?_
  refine sv_iload_n (pc := 28) 3 (sv_d k_Tr_add 16 rfl) rfl rfl ?_
  refine ss_iast (pc := 29) (n := 80) (sv_d k_Tr_add 17 rfl) kd154 (by decide) (ss_lt (by decide)) rfl (ss_lets (fun s3 e_s3 => ?_))
  refine sv_aload_n (pc := 30) 0 (sv_d k_Tr_add 18 rfl) rfl rfl ?_
  refine sv_getf (pc := 31) 5 (sv_d k_Tr_add 19 rfl) cf9 (by decide) w356 kd151 (ss_lt (by decide)) (lr_151_5 E _) ?_
  refine sv_aload_n (pc := 34) 0 (sv_d k_Tr_add 20 rfl) rfl rfl ?_
  refine sv_getf (pc := 35) 10 (sv_d k_Tr_add 21 rfl) cf9 (by decide) w361 kd151 (ss_lt (by decide)) rfl ?_
  refine sv_iload (pc := 38) 4 (sv_d k_Tr_add 22 rfl) rfl ?_
  refine ss_iast (pc := 40) (n := 80) (sv_d k_Tr_add 23 rfl) kd155 (by decide) (ss_lt (by decide)) rfl (ss_lets (fun s4 e_s4 => ?_))
  refine sv_aload_n (pc := 41) 0 (sv_d k_Tr_add 24 rfl) rfl rfl ?_
  refine sv_getf (pc := 42) 6 (sv_d k_Tr_add 25 rfl) cf9 (by decide) w357 kd151 (ss_lt (by decide)) (lr_151_6 E _) ?_
  refine sv_aload_n (pc := 45) 0 (sv_d k_Tr_add 26 rfl) rfl rfl ?_
  refine sv_getf (pc := 46) 10 (sv_d k_Tr_add 27 rfl) cf9 (by decide) w361 kd151 (ss_lt (by decide)) rfl ?_
  refine sv_iload (pc := 49) 5 (sv_d k_Tr_add 28 rfl) rfl ?_
  refine ss_iast (pc := 51) (n := 80) (sv_d k_Tr_add 29 rfl) kd156 (by decide) (ss_lt (by decide)) rfl (ss_lets (fun s5 e_s5 => ?_))
  refine sv_aload_n (pc := 52) 0 (sv_d k_Tr_add 30 rfl) rfl rfl ?_
  refine sv_dup (pc := 53) (sv_d k_Tr_add 31 rfl) rfl ?_
  refine sv_getf (pc := 54) 10 (sv_d k_Tr_add 32 rfl) cf9 (by decide) w361 kd151 (ss_lt (by decide)) rfl ?_
  refine sv_dup_x1 (pc := 57) (sv_d k_Tr_add 33 rfl) rfl rfl ?_
  refine sv_iconst (pc := 58) (v := (1 : Int32)) (sv_d k_Tr_add 34 rfl) (by decide) ?_
  refine sv_iadd (pc := 59) (sv_d k_Tr_add 35 rfl) ?_
  refine ss_putI (pc := 60) 10 (sv_d k_Tr_add 36 rfl) cf9 (by decide) rfl w361 kd151 (ss_lt (by decide)) rfl rfl (fun _ => rfl) (ss_lets (fun s6 e_s6 => ?_))
  exact sv_ret (pc := 63) (sv_d k_Tr_add 37 rfl) ⟨_, rfl, rfl⟩ rfl
/-! Tr_rateOfTruck -/
abbrev m_Tr_rateOfTruck : sv_M := (yX9_rateOfTruck, cX9_rateOfTruck, 2, (some (.object "PennyRates$Rate")))
def t_Tr_rateOfTruck : List (Nat × Instr × Nat) := [(0, .aload_n 0, 1), (1, .getfield 35, 3), (4, .aload_n 0, 1), (5, .getfield 11, 3), (8, .iload_n 1, 1), (9, .iaload, 1), (10, .invokevirtual 47, 3), (13, .areturn, 1)]
theorem k_Tr_rateOfTruck : sv_tk m_Tr_rateOfTruck.2.1 t_Tr_rateOfTruck := by decide +kernel
theorem g_Tr_rateOfTruck : sv_G m_Tr_rateOfTruck 1 := ⟨by decide +kernel, sv_in 979 (by decide +kernel) rfl, sv_in 98 (by decide +kernel) rfl, ⟨by decide, by decide⟩, by decide +kernel, by decide⟩
theorem in_Tr_rateOfTruck : Cond.instanceMethod m_Tr_rateOfTruck.1 ∈ sv_T := sv_in 978 (by decide +kernel) rfl
theorem se_Tr_rateOfTruck : Cond.selects m_Tr_rateOfTruck.1.cls m_Tr_rateOfTruck.1 m_Tr_rateOfTruck.1 ∈ sv_T := sv_in 20 (by decide +kernel) rfl
def F_Tr_rateOfTruck (x1 : Int32) (s : sv_S) : Option (Nat) :=
  if sv_ib x1 80 = true then
    (F_Rs_row (s.1 152 x1.toNatClampNeg) s).bind fun r1 =>
    if ss_ok2 s r1 5 = true then
      some r1
    else none
  else none
theorem V_Tr_rateOfTruck (E : sv_E) (d : Nat) (x1 : Int32) (s : sv_S) : sv_V E m_Tr_rateOfTruck (d + 1) (ss_pq E s) 0 (lv_args 0 [sv_r E 151, .int x1]) [] (ss_e s) (F_Tr_rateOfTruck x1 s) := by
  show sv_V E m_Tr_rateOfTruck (d + 1) (ss_pq E s) 0 [(0, sv_r E 151), (1, .int x1)] [] (ss_e s) _
  unfold F_Tr_rateOfTruck
  refine sv_aload_n (pc := 0) 0 (sv_d k_Tr_rateOfTruck 0 rfl) rfl rfl ?_
  refine sv_getf (pc := 1) 0 (sv_d k_Tr_rateOfTruck 1 rfl) cf9 (by decide) w351 kd151 (ss_lt (by decide)) (lr_151_0 E _) ?_
  refine sv_aload_n (pc := 4) 0 (sv_d k_Tr_rateOfTruck 2 rfl) rfl rfl ?_
  refine sv_getf (pc := 5) 2 (sv_d k_Tr_rateOfTruck 3 rfl) cf9 (by decide) w353 kd151 (ss_lt (by decide)) (lr_151_2 E _) ?_
  refine sv_iload_n (pc := 8) 1 (sv_d k_Tr_rateOfTruck 4 rfl) rfl rfl ?_
  refine ss_iald (pc := 9) (n := 80) (sv_d k_Tr_rateOfTruck 5 rfl) kd152 (ss_lt (by decide)) rfl ?_
  refine sv_callV (pc := 10) (ψ := (ss_pq E s)) (As := [.int (s.1 152 x1.toNatClampNeg)]) (rest := []) (c := 88) (sv_d k_Tr_rateOfTruck 6 rfl) g_Rs_row w980 in_Rs_row se_Rs_row cf6 kd88 (ss_lt (by decide)) rfl (Nat.le_of_ble_eq_true rfl) (V_Rs_row E (d + 0) (s.1 152 x1.toNatClampNeg) s) (Nat.le_of_ble_eq_true rfl) rfl (fun r1 => ?_)
  show sv_V E _ _ _ 13 _ [sv_r E r1] (ss_e s) _
  refine ss_gd2 (fun h_g2 o_g2 l_g2 => ?_)
  exact sv_ret (pc := 13) (sv_d k_Tr_rateOfTruck 7 rfl) ⟨_, rfl, Or.inr ⟨_, rfl⟩⟩ rfl
/-! Tr_dueOf -/
abbrev m_Tr_dueOf : sv_M := (yX9_dueOf, cX9_dueOf, 3, (some .int))
def t_Tr_dueOf : List (Nat × Instr × Nat) := [(0, .aload_n 0, 1), (1, .iload_n 1, 1), (2, .invokevirtual 53, 3), (5, .astore_n 2, 1), (6, .aload_n 0, 1), (7, .getfield 35, 3), (10, .aload_n 2, 1), (11, .aload_n 2, 1), (12, .getfield 56, 3), (15, .aload_n 0, 1), (16, .getfield 15, 3), (19, .iload_n 1, 1), (20, .iaload, 1), (21, .aload_n 0, 1), (22, .getfield 18, 3), (25, .iload_n 1, 1), (26, .iaload, 1), (27, .aload_n 0, 1), (28, .getfield 24, 3), (31, .iload_n 1, 1), (32, .iaload, 1), (33, .invokevirtual 61, 3), (36, .ireturn, 1)]
theorem k_Tr_dueOf : sv_tk m_Tr_dueOf.2.1 t_Tr_dueOf := by decide +kernel
theorem g_Tr_dueOf : sv_G m_Tr_dueOf 1 := ⟨by decide +kernel, sv_in 975 (by decide +kernel) rfl, sv_in 98 (by decide +kernel) rfl, ⟨by decide, by decide⟩, by decide +kernel, by decide⟩
theorem in_Tr_dueOf : Cond.instanceMethod m_Tr_dueOf.1 ∈ sv_T := sv_in 973 (by decide +kernel) rfl
theorem se_Tr_dueOf : Cond.selects m_Tr_dueOf.1.cls m_Tr_dueOf.1 m_Tr_dueOf.1 ∈ sv_T := sv_in 974 (by decide +kernel) rfl
def F_Tr_dueOf (x1 : Int32) (s : sv_S) : Option (Int32 × sv_S) :=
  (F_Tr_rateOfTruck x1 s).bind fun r1 =>
  if ss_ok2 s r1 5 = true then
    if sv_ib x1 80 = true then
      if sv_ib x1 80 = true then
        if sv_ib x1 80 = true then
          (F_Rs_fee r1 (s.1 r1 5) (s.1 153 x1.toNatClampNeg) (s.1 154 x1.toNatClampNeg) (s.1 156 x1.toNatClampNeg) s).bind fun r3 =>
          some (r3.1, r3.2)
        else none
      else none
    else none
  else none
theorem V_Tr_dueOf (E : sv_E) (d : Nat) (x1 : Int32) (s : sv_S) : sv_V E m_Tr_dueOf (d + 3) ss_i 0 (lv_args 0 [sv_r E 151, .int x1]) [] (ss_e s) (F_Tr_dueOf x1 s) := by
  show sv_V E m_Tr_dueOf (d + 3) ss_i 0 [(0, sv_r E 151), (1, .int x1)] [] (ss_e s) _
  unfold F_Tr_dueOf
  refine sv_aload_n (pc := 0) 0 (sv_d k_Tr_dueOf 0 rfl) rfl rfl ?_
  refine sv_iload_n (pc := 1) 1 (sv_d k_Tr_dueOf 1 rfl) rfl rfl ?_
  refine sv_callV (pc := 2) (ψ := (ss_pq E s)) (As := [.int x1]) (rest := []) (c := 151) (sv_d k_Tr_dueOf 2 rfl) g_Tr_rateOfTruck w976 in_Tr_rateOfTruck se_Tr_rateOfTruck cf9 kd151 (ss_lt (by decide)) rfl (Nat.le_of_ble_eq_true rfl) (V_Tr_rateOfTruck E (d + 1) x1 s) (Nat.le_of_ble_eq_true rfl) rfl (fun r1 => ?_)
  show sv_V E _ _ _ 5 _ [sv_r E r1] (ss_e s) _
  refine ss_gd2 (fun h_g2 o_g2 l_g2 => ?_)
  refine sv_astore_n (pc := 5) (lv' := [(2, sv_r E r1), (0, sv_r E 151), (1, .int x1)]) (sv_d k_Tr_dueOf 3 rfl) rfl (by decide) rfl ?_
  refine sv_aload_n (pc := 6) 1 (sv_d k_Tr_dueOf 4 rfl) rfl rfl ?_
  refine sv_getf (pc := 7) 0 (sv_d k_Tr_dueOf 5 rfl) cf9 (by decide) w351 kd151 (ss_lt (by decide)) (lr_151_0 E _) ?_
  refine sv_aload_n (pc := 10) 0 (sv_d k_Tr_dueOf 6 rfl) rfl rfl ?_
  refine sv_aload_n (pc := 11) 0 (sv_d k_Tr_dueOf 7 rfl) rfl rfl ?_
  refine sv_getN (pc := 12) 5 (sv_d k_Tr_dueOf 8 rfl) cf5 (by decide) w284 h_g2 l_g2 rfl ?_
  refine sv_aload_n (pc := 15) 1 (sv_d k_Tr_dueOf 9 rfl) rfl rfl ?_
  refine sv_getf (pc := 16) 3 (sv_d k_Tr_dueOf 10 rfl) cf9 (by decide) w354 kd151 (ss_lt (by decide)) (lr_151_3 E _) ?_
  refine sv_iload_n (pc := 19) 2 (sv_d k_Tr_dueOf 11 rfl) rfl rfl ?_
  refine ss_iald (pc := 20) (n := 80) (sv_d k_Tr_dueOf 12 rfl) kd153 (ss_lt (by decide)) rfl ?_
  refine sv_aload_n (pc := 21) 1 (sv_d k_Tr_dueOf 13 rfl) rfl rfl ?_
  refine sv_getf (pc := 22) 4 (sv_d k_Tr_dueOf 14 rfl) cf9 (by decide) w355 kd151 (ss_lt (by decide)) (lr_151_4 E _) ?_
  refine sv_iload_n (pc := 25) 2 (sv_d k_Tr_dueOf 15 rfl) rfl rfl ?_
  refine ss_iald (pc := 26) (n := 80) (sv_d k_Tr_dueOf 16 rfl) kd154 (ss_lt (by decide)) rfl ?_
  refine sv_aload_n (pc := 27) 1 (sv_d k_Tr_dueOf 17 rfl) rfl rfl ?_
  refine sv_getf (pc := 28) 6 (sv_d k_Tr_dueOf 18 rfl) cf9 (by decide) w357 kd151 (ss_lt (by decide)) (lr_151_6 E _) ?_
  refine sv_iload_n (pc := 31) 2 (sv_d k_Tr_dueOf 19 rfl) rfl rfl ?_
  refine ss_iald (pc := 32) (n := 80) (sv_d k_Tr_dueOf 20 rfl) kd156 (ss_lt (by decide)) rfl ?_
  refine sv_callV (pc := 33) (ψ := ss_i) (As := [sv_r E r1, .int (s.1 r1 5), .int (s.1 153 x1.toNatClampNeg), .int (s.1 154 x1.toNatClampNeg), .int (s.1 156 x1.toNatClampNeg)]) (rest := []) (c := 88) (sv_d k_Tr_dueOf 21 rfl) g_Rs_fee w981 in_Rs_fee se_Rs_fee cf6 kd88 (ss_lt (by decide)) rfl (Nat.le_of_ble_eq_true rfl) (V_Rs_fee E (d + 0) r1 (s.1 r1 5) (s.1 153 x1.toNatClampNeg) (s.1 154 x1.toNatClampNeg) (s.1 156 x1.toNatClampNeg) s h_g2 o_g2 l_g2) (Nat.le_of_ble_eq_true rfl) rfl (fun r3 => ?_)
  show sv_V E _ _ _ 36 _ [.int r3.1] (ss_e r3.2) _
  exact sv_ret (pc := 36) (sv_d k_Tr_dueOf 22 rfl) ⟨_, rfl, rfl⟩ rfl
/-! Tr_oneIf -/
abbrev m_Tr_oneIf : sv_M := (yX9_oneIf, cX9_oneIf, 1, (some .int))
def t_Tr_oneIf : List (Nat × Instr × Nat) := [(0, .iload_n 0, 1), (1, .ifCond .eq 7, 3), (4, .iconst 1, 1), (5, .goto 4, 3), (8, .iconst 0, 1), (9, .ireturn, 1)]
theorem k_Tr_oneIf : sv_tk m_Tr_oneIf.2.1 t_Tr_oneIf := by decide +kernel
theorem g_Tr_oneIf : sv_G m_Tr_oneIf 1 := ⟨by decide +kernel, sv_in 1002 (by decide +kernel) rfl, sv_in 98 (by decide +kernel) rfl, ⟨by decide, by decide⟩, by decide +kernel, by decide⟩
theorem st_Tr_oneIf : Cond.static m_Tr_oneIf.1 ∈ sv_T := sv_in 1001 (by decide +kernel) rfl
def F_Tr_oneIf (x0 : Int32) (s : sv_S) : Option (Int32) :=
  if x0 = 0 then
    some (0 : Int32)
  else
  some (1 : Int32)
theorem V_Tr_oneIf (E : sv_E) (d : Nat) (x0 : Int32) (s : sv_S) : sv_V E m_Tr_oneIf (d + 0) (ss_pi s) 0 (lv_args 0 [.int x0]) [] (ss_e s) (F_Tr_oneIf x0 s) := by
  show sv_V E m_Tr_oneIf (d + 0) (ss_pi s) 0 [(0, .int x0)] [] (ss_e s) _
  unfold F_Tr_oneIf
  refine sv_iload_n (pc := 0) 0 (sv_d k_Tr_oneIf 0 rfl) rfl rfl ?_
  refine sv_if_eq (pc := 1) (tgt := 8) (sv_d k_Tr_oneIf 1 rfl) (by decide) ?_ ?_
  · refine sv_iconst (pc := 8) (v := (0 : Int32)) (sv_d k_Tr_oneIf 4 rfl) (by decide) ?_
    exact sv_ret (pc := 9) (sv_d k_Tr_oneIf 5 rfl) ⟨_, rfl, rfl⟩ rfl
  · refine sv_iconst (pc := 4) (v := (1 : Int32)) (sv_d k_Tr_oneIf 2 rfl) (by decide) ?_
    refine sv_goto (pc := 5) (tgt := 9) (sv_d k_Tr_oneIf 3 rfl) (by decide) ?_
    exact sv_ret (pc := 9) (sv_d k_Tr_oneIf 5 rfl) ⟨_, rfl, rfl⟩ rfl
/-! Tr_courtsLaw -/
abbrev m_Tr_courtsLaw : sv_M := (yX9_courtsLaw, cX9_courtsLaw, 3, (some (.object "PennyRates$Law")))
def t_Tr_courtsLaw : List (Nat × Instr × Nat) := [(0, .aload_n 0, 1), (1, .getfield 39, 3), (4, .iconst (-1), 1), (5, .aload_n 0, 1), (6, .getfield 24, 3), (9, .iload_n 1, 1), (10, .iaload, 1), (11, .aload_n 0, 1), (12, .getfield 24, 3), (15, .iload_n 2, 1), (16, .iaload, 1), (17, .invokestatic 65, 3), (20, .invokevirtual 71, 3), (23, .areturn, 1)]
theorem k_Tr_courtsLaw : sv_tk m_Tr_courtsLaw.2.1 t_Tr_courtsLaw := by decide +kernel
theorem g_Tr_courtsLaw : sv_G m_Tr_courtsLaw 2 := ⟨by decide +kernel, sv_in 1006 (by decide +kernel) rfl, sv_in 98 (by decide +kernel) rfl, ⟨by decide, by decide⟩, by decide +kernel, by decide⟩
theorem in_Tr_courtsLaw : Cond.instanceMethod m_Tr_courtsLaw.1 ∈ sv_T := sv_in 1005 (by decide +kernel) rfl
theorem se_Tr_courtsLaw : Cond.selects m_Tr_courtsLaw.1.cls m_Tr_courtsLaw.1 m_Tr_courtsLaw.1 ∈ sv_T := sv_in 22 (by decide +kernel) rfl
def F_Tr_courtsLaw (x1 : Int32) (x2 : Int32) (s : sv_S) : Option (Nat × sv_S) :=
  if sv_ib x1 80 = true then
    if sv_ib x2 80 = true then
      (F_JM_max (s.1 156 x1.toNatClampNeg) (s.1 156 x2.toNatClampNeg) s).bind fun r1 =>
      (F_Ls_inForce (-1 : Int32) r1 s).bind fun r2 =>
      if ss_ok2 r2.2 r2.1 2 = true then
        some (r2.1, r2.2)
      else none
    else none
  else none
theorem V_Tr_courtsLaw (E : sv_E) (d : Nat) (x1 : Int32) (x2 : Int32) (s : sv_S) : sv_V E m_Tr_courtsLaw (d + 1) (ss_q E) 0 (lv_args 0 [sv_r E 151, .int x1, .int x2]) [] (ss_e s) (F_Tr_courtsLaw x1 x2 s) := by
  show sv_V E m_Tr_courtsLaw (d + 1) (ss_q E) 0 [(0, sv_r E 151), (1, .int x1), (2, .int x2)] [] (ss_e s) _
  unfold F_Tr_courtsLaw
  refine sv_aload_n (pc := 0) 0 (sv_d k_Tr_courtsLaw 0 rfl) rfl rfl ?_
  refine sv_getf (pc := 1) 1 (sv_d k_Tr_courtsLaw 1 rfl) cf9 (by decide) w352 kd151 (ss_lt (by decide)) (lr_151_1 E _) ?_
  refine sv_iconst (pc := 4) (v := (-1 : Int32)) (sv_d k_Tr_courtsLaw 2 rfl) (by decide) ?_
  refine sv_aload_n (pc := 5) 0 (sv_d k_Tr_courtsLaw 3 rfl) rfl rfl ?_
  refine sv_getf (pc := 6) 6 (sv_d k_Tr_courtsLaw 4 rfl) cf9 (by decide) w357 kd151 (ss_lt (by decide)) (lr_151_6 E _) ?_
  refine sv_iload_n (pc := 9) 1 (sv_d k_Tr_courtsLaw 5 rfl) rfl rfl ?_
  refine ss_iald (pc := 10) (n := 80) (sv_d k_Tr_courtsLaw 6 rfl) kd156 (ss_lt (by decide)) rfl ?_
  refine sv_aload_n (pc := 11) 0 (sv_d k_Tr_courtsLaw 7 rfl) rfl rfl ?_
  refine sv_getf (pc := 12) 6 (sv_d k_Tr_courtsLaw 8 rfl) cf9 (by decide) w357 kd151 (ss_lt (by decide)) (lr_151_6 E _) ?_
  refine sv_iload_n (pc := 15) 2 (sv_d k_Tr_courtsLaw 9 rfl) rfl rfl ?_
  refine ss_iald (pc := 16) (n := 80) (sv_d k_Tr_courtsLaw 10 rfl) kd156 (ss_lt (by decide)) rfl ?_
  refine sv_callS (pc := 17) (ψ := (ss_pi s)) (As := [.int (s.1 156 x1.toNatClampNeg), .int (s.1 156 x2.toNatClampNeg)]) (rest := [.int (-1 : Int32), sv_r E 81]) (sv_d k_Tr_courtsLaw 11 rfl) g_JM_max w995 st_JM_max rfl (Nat.le_of_ble_eq_true rfl) (V_JM_max E (d + 0) (s.1 156 x1.toNatClampNeg) (s.1 156 x2.toNatClampNeg) s) (Nat.le_of_ble_eq_true rfl) rfl (fun r1 => ?_)
  show sv_V E _ _ _ 20 _ [.int r1, .int (-1 : Int32), sv_r E 81] (ss_e s) _
  refine sv_callV (pc := 20) (ψ := (ss_q E)) (As := [.int (-1 : Int32), .int r1]) (rest := []) (c := 81) (sv_d k_Tr_courtsLaw 12 rfl) g_Ls_inForce w1007 in_Ls_inForce se_Ls_inForce cf4 kd81 (ss_lt (by decide)) rfl (Nat.le_of_ble_eq_true rfl) (V_Ls_inForce E (d + 0) (-1 : Int32) r1 s) (Nat.le_of_ble_eq_true rfl) rfl (fun r2 => ?_)
  show sv_V E _ _ _ 23 _ [sv_r E r2.1] (ss_e r2.2) _
  refine ss_gd2 (fun h_g3 o_g3 l_g3 => ?_)
  exact sv_ret (pc := 23) (sv_d k_Tr_courtsLaw 13 rfl) ⟨_, rfl, Or.inr ⟨_, rfl⟩⟩ rfl
/-! Tr_gatherFacts -/
abbrev m_Tr_gatherFacts : sv_M := (yX9_gatherFacts, cX9_gatherFacts, 6, none)
def t_Tr_gatherFacts : List (Nat × Instr × Nat) := [(0, .aload_n 0, 1), (1, .iload_n 1, 1), (2, .invokevirtual 53, 3), (5, .astore_n 3, 1), (6, .aload_n 0, 1), (7, .iload_n 2, 1), (8, .invokevirtual 53, 3), (11, .astore 4, 2), (13, .aload_n 0, 1), (14, .getfield 24, 3), (17, .iload_n 1, 1), (18, .iaload, 1), (19, .aload_n 0, 1), (20, .getfield 24, 3), (23, .iload_n 2, 1), (24, .iaload, 1), (25, .invokestatic 65, 3), (28, .istore 5, 2), (30, .aload_n 0, 1), (31, .getfield 29, 3), (34, .iconst 0, 1), (35, .aload_n 0, 1), (36, .getfield 15, 3), (39, .iload_n 1, 1), (40, .iaload, 1), (41, .iastore, 1), (42, .aload_n 0, 1), (43, .getfield 29, 3), (46, .iconst 1, 1), (47, .aload_n 0, 1), (48, .getfield 39, 3), (51, .aload_n 3, 1), (52, .getfield 77, 3), (55, .iload 5, 2), (57, .bipush 20, 2), (59, .aload_n 0, 1), (60, .getfield 15, 3), (63, .iload_n 1, 1), (64, .iaload, 1), (65, .iadd, 1), (66, .invokevirtual 80, 3), (69, .iastore, 1), (70, .aload_n 0, 1), (71, .getfield 29, 3), (74, .iconst 2, 1), (75, .aload_n 3, 1), (76, .getfield 77, 3), (79, .iastore, 1), (80, .aload_n 0, 1), (81, .getfield 29, 3), (84, .iconst 3, 1), (85, .aload_n 0, 1), (86, .getfield 18, 3), (89, .iload_n 1, 1), (90, .iaload, 1), (91, .iastore, 1), (92, .aload_n 0, 1), (93, .getfield 29, 3), (96, .iconst 4, 1), (97, .aload_n 0, 1), (98, .getfield 24, 3), (101, .iload_n 1, 1), (102, .iaload, 1), (103, .aload_n 0, 1), (104, .getfield 24, 3), (107, .iload_n 2, 1), (108, .iaload, 1), (109, .isub, 1), (110, .invokestatic 84, 3), (113, .iastore, 1), (114, .aload_n 0, 1), (115, .getfield 29, 3), (118, .iconst 5, 1), (119, .aload_n 3, 1), (120, .getfield 88, 3), (123, .iconst 4, 1), (124, .if_icmp .eq 12, 3), (127, .aload 4, 2), (129, .getfield 88, 3), (132, .iconst 4, 1), (133, .if_icmp .ne 7, 3), (136, .iconst 1, 1), (137, .goto 4, 3), (140, .iconst 0, 1), (141, .invokestatic 91, 3), (144, .iastore, 1), (145, .aload_n 0, 1), (146, .getfield 29, 3), (149, .bipush 6, 2), (151, .aload_n 3, 1), (152, .getfield 77, 3), (155, .aload 4, 2), (157, .getfield 77, 3), (160, .if_icmp .ne 7, 3), (163, .iconst 1, 1), (164, .goto 4, 3), (167, .iconst 0, 1), (168, .invokestatic 91, 3), (171, .iastore, 1), (172, .return_, 1)]
theorem k_Tr_gatherFacts : sv_tk m_Tr_gatherFacts.2.1 t_Tr_gatherFacts := by decide +kernel
theorem g_Tr_gatherFacts : sv_G m_Tr_gatherFacts 2 := ⟨by decide +kernel, sv_in 994 (by decide +kernel) rfl, sv_in 98 (by decide +kernel) rfl, ⟨by decide, by decide⟩, by decide +kernel, by decide⟩
theorem in_Tr_gatherFacts : Cond.instanceMethod m_Tr_gatherFacts.1 ∈ sv_T := sv_in 993 (by decide +kernel) rfl
theorem se_Tr_gatherFacts : Cond.selects m_Tr_gatherFacts.1.cls m_Tr_gatherFacts.1 m_Tr_gatherFacts.1 ∈ sv_T := sv_in 21 (by decide +kernel) rfl
def F_Tr_gatherFacts_b141 (a3 : Nat) (a4 : Nat) (t1 : Int32) (t2 : Int32) (s : sv_S) : Option (sv_S) :=
  (F_Tr_oneIf t2 s).bind fun r13 =>
  if sv_ib t1 7 = true then
    ss_let (ss_setI s 157 t1.toNatClampNeg r13) fun s14 =>
    if (s14.1 a3 2) = (s14.1 a4 2) then
      (F_Tr_oneIf (1 : Int32) s14).bind fun r17 =>
      if sv_ib (6 : Int32) 7 = true then
        ss_let (ss_setI s14 157 (6 : Int32).toNatClampNeg r17) fun s18 =>
        some s18
      else none
    else
    (F_Tr_oneIf (0 : Int32) s14).bind fun r15 =>
    if sv_ib (6 : Int32) 7 = true then
      ss_let (ss_setI s14 157 (6 : Int32).toNatClampNeg r15) fun s16 =>
      some s16
    else none
  else none
theorem V_Tr_gatherFacts_b141 (E : sv_E) (d : Nat) (a3 : Nat) (a4 : Nat) (t1 : Int32) (t2 : Int32) (s : sv_S) (h_a3 : ss_K a3 = 5) (o_a3 : 64 ≤ a3) (l_a3 : a3 < 243 + s.2.2.2.2.1) (h_a4 : ss_K a4 = 5) (o_a4 : 64 ≤ a4) (l_a4 : a4 < 243 + s.2.2.2.2.1) : sv_V E m_Tr_gatherFacts (d + 2) ss_v 141 [(0, sv_r E 151), (3, sv_r E a3), (4, sv_r E a4)] [.int t2, .int t1, sv_r E 157] (ss_e s) (F_Tr_gatherFacts_b141 a3 a4 t1 t2 s) := by
  unfold F_Tr_gatherFacts_b141
  refine sv_callS (pc := 141) (ψ := (ss_pi s)) (As := [.int t2]) (rest := [.int t1, sv_r E 157]) (sv_d k_Tr_gatherFacts 84 rfl) g_Tr_oneIf w1000 st_Tr_oneIf rfl (Nat.le_of_ble_eq_true rfl) (V_Tr_oneIf E (d + 1) t2 s) (Nat.le_of_ble_eq_true rfl) rfl (fun r13 => ?_)
  show sv_V E _ _ _ 144 _ [.int r13, .int t1, sv_r E 157] (ss_e s) _
  refine ss_iast (pc := 144) (n := 7) (sv_d k_Tr_gatherFacts 85 rfl) kd157 (by decide) (ss_lt (by decide)) rfl (ss_lets (fun s14 e_s14 => ?_))
  have l_a3 : a3 < 243 + s14.2.2.2.2.1 := by rw [e_s14]; exact l_a3
  have l_a4 : a4 < 243 + s14.2.2.2.2.1 := by rw [e_s14]; exact l_a4
  refine sv_aload_n (pc := 145) 0 (sv_d k_Tr_gatherFacts 86 rfl) rfl rfl ?_
  refine sv_getf (pc := 146) 7 (sv_d k_Tr_gatherFacts 87 rfl) cf9 (by decide) w358 kd151 (ss_lt (by decide)) (lr_151_7 E _) ?_
  refine sv_bipush (pc := 149) (v := (6 : Int32)) (sv_d k_Tr_gatherFacts 88 rfl) (by decide) ?_
  refine sv_aload_n (pc := 151) 1 (sv_d k_Tr_gatherFacts 89 rfl) rfl rfl ?_
  refine sv_getN (pc := 152) 2 (sv_d k_Tr_gatherFacts 90 rfl) cf5 (by decide) w268 h_a3 l_a3 rfl ?_
  refine sv_aload (pc := 155) 2 (sv_d k_Tr_gatherFacts 91 rfl) rfl ?_
  refine sv_getN (pc := 157) 2 (sv_d k_Tr_gatherFacts 92 rfl) cf5 (by decide) w268 h_a4 l_a4 rfl ?_
  refine sv_icmp_ne (pc := 160) (tgt := 167) (sv_d k_Tr_gatherFacts 93 rfl) (by decide) ?_ ?_
  · refine sv_iconst (pc := 167) (v := (0 : Int32)) (sv_d k_Tr_gatherFacts 96 rfl) (by decide) ?_
    refine sv_callS (pc := 168) (ψ := (ss_pi s14)) (As := [.int (0 : Int32)]) (rest := [.int (6 : Int32), sv_r E 157]) (sv_d k_Tr_gatherFacts 97 rfl) g_Tr_oneIf w1000 st_Tr_oneIf rfl (Nat.le_of_ble_eq_true rfl) (V_Tr_oneIf E (d + 1) (0 : Int32) s14) (Nat.le_of_ble_eq_true rfl) rfl (fun r15 => ?_)
    show sv_V E _ _ _ 171 _ [.int r15, .int (6 : Int32), sv_r E 157] (ss_e s14) _
    refine ss_iast (pc := 171) (n := 7) (sv_d k_Tr_gatherFacts 98 rfl) kd157 (by decide) (ss_lt (by decide)) rfl (ss_lets (fun s16 e_s16 => ?_))
    have l_a3 : a3 < 243 + s16.2.2.2.2.1 := by rw [e_s16]; exact l_a3
    have l_a4 : a4 < 243 + s16.2.2.2.2.1 := by rw [e_s16]; exact l_a4
    exact sv_retv (pc := 172) (sv_d k_Tr_gatherFacts 99 rfl) rfl rfl
  · refine sv_iconst (pc := 163) (v := (1 : Int32)) (sv_d k_Tr_gatherFacts 94 rfl) (by decide) ?_
    refine sv_goto (pc := 164) (tgt := 168) (sv_d k_Tr_gatherFacts 95 rfl) (by decide) ?_
    refine sv_callS (pc := 168) (ψ := (ss_pi s14)) (As := [.int (1 : Int32)]) (rest := [.int (6 : Int32), sv_r E 157]) (sv_d k_Tr_gatherFacts 97 rfl) g_Tr_oneIf w1000 st_Tr_oneIf rfl (Nat.le_of_ble_eq_true rfl) (V_Tr_oneIf E (d + 1) (1 : Int32) s14) (Nat.le_of_ble_eq_true rfl) rfl (fun r17 => ?_)
    show sv_V E _ _ _ 171 _ [.int r17, .int (6 : Int32), sv_r E 157] (ss_e s14) _
    refine ss_iast (pc := 171) (n := 7) (sv_d k_Tr_gatherFacts 98 rfl) kd157 (by decide) (ss_lt (by decide)) rfl (ss_lets (fun s18 e_s18 => ?_))
    have l_a3 : a3 < 243 + s18.2.2.2.2.1 := by rw [e_s18]; exact l_a3
    have l_a4 : a4 < 243 + s18.2.2.2.2.1 := by rw [e_s18]; exact l_a4
    exact sv_retv (pc := 172) (sv_d k_Tr_gatherFacts 99 rfl) rfl rfl
def F_Tr_gatherFacts_b136 (a3 : Nat) (a4 : Nat) (t1 : Int32) (s : sv_S) : Option (sv_S) :=
  F_Tr_gatherFacts_b141 a3 a4 t1 (1 : Int32) s
theorem V_Tr_gatherFacts_b136 (E : sv_E) (d : Nat) (a3 : Nat) (a4 : Nat) (t1 : Int32) (s : sv_S) (h_a3 : ss_K a3 = 5) (o_a3 : 64 ≤ a3) (l_a3 : a3 < 243 + s.2.2.2.2.1) (h_a4 : ss_K a4 = 5) (o_a4 : 64 ≤ a4) (l_a4 : a4 < 243 + s.2.2.2.2.1) : sv_V E m_Tr_gatherFacts (d + 2) ss_v 136 [(0, sv_r E 151), (3, sv_r E a3), (4, sv_r E a4)] [.int t1, sv_r E 157] (ss_e s) (F_Tr_gatherFacts_b136 a3 a4 t1 s) := by
  unfold F_Tr_gatherFacts_b136
  refine sv_iconst (pc := 136) (v := (1 : Int32)) (sv_d k_Tr_gatherFacts 81 rfl) (by decide) ?_
  refine sv_goto (pc := 137) (tgt := 141) (sv_d k_Tr_gatherFacts 82 rfl) (by decide) ?_
  exact sv_loc [0, 1, 2] rfl (V_Tr_gatherFacts_b141 E d a3 a4 t1 (1 : Int32) s h_a3 o_a3 l_a3 h_a4 o_a4 l_a4)
def F_Tr_gatherFacts (x1 : Int32) (x2 : Int32) (s : sv_S) : Option (sv_S) :=
  (F_Tr_rateOfTruck x1 s).bind fun r1 =>
  if ss_ok2 s r1 5 = true then
    (F_Tr_rateOfTruck x2 s).bind fun r3 =>
    if ss_ok2 s r3 5 = true then
      if sv_ib x1 80 = true then
        if sv_ib x2 80 = true then
          (F_JM_max (s.1 156 x1.toNatClampNeg) (s.1 156 x2.toNatClampNeg) s).bind fun r5 =>
          if sv_ib x1 80 = true then
            if sv_ib (0 : Int32) 7 = true then
              ss_let (ss_setI s 157 (0 : Int32).toNatClampNeg (s.1 153 x1.toNatClampNeg)) fun s6 =>
              if sv_ib x1 80 = true then
                (F_Ls_value (s6.1 r1 2) r5 ((20 : Int32) + (s6.1 153 x1.toNatClampNeg)) s6).bind fun r7 =>
                if sv_ib (1 : Int32) 7 = true then
                  ss_let (ss_setI r7.2 157 (1 : Int32).toNatClampNeg r7.1) fun s8 =>
                  if sv_ib (2 : Int32) 7 = true then
                    ss_let (ss_setI s8 157 (2 : Int32).toNatClampNeg (s8.1 r1 2)) fun s9 =>
                    if sv_ib x1 80 = true then
                      if sv_ib (3 : Int32) 7 = true then
                        ss_let (ss_setI s9 157 (3 : Int32).toNatClampNeg (s9.1 154 x1.toNatClampNeg)) fun s10 =>
                        if sv_ib x1 80 = true then
                          if sv_ib x2 80 = true then
                            (F_JM_abs ((s10.1 156 x1.toNatClampNeg) - (s10.1 156 x2.toNatClampNeg)) s10).bind fun r11 =>
                            if sv_ib (4 : Int32) 7 = true then
                              ss_let (ss_setI s10 157 (4 : Int32).toNatClampNeg r11) fun s12 =>
                              if (s12.1 r1 1) = (4 : Int32) then
                                F_Tr_gatherFacts_b136 r1 r3 (5 : Int32) s12
                              else
                              if (s12.1 r3 1) = (4 : Int32) then
                                F_Tr_gatherFacts_b136 r1 r3 (5 : Int32) s12
                              else
                              F_Tr_gatherFacts_b141 r1 r3 (5 : Int32) (0 : Int32) s12
                            else none
                          else none
                        else none
                      else none
                    else none
                  else none
                else none
              else none
            else none
          else none
        else none
      else none
    else none
  else none
theorem V_Tr_gatherFacts (E : sv_E) (d : Nat) (x1 : Int32) (x2 : Int32) (s : sv_S) : sv_V E m_Tr_gatherFacts (d + 2) ss_v 0 (lv_args 0 [sv_r E 151, .int x1, .int x2]) [] (ss_e s) (F_Tr_gatherFacts x1 x2 s) := by
  show sv_V E m_Tr_gatherFacts (d + 2) ss_v 0 [(0, sv_r E 151), (1, .int x1), (2, .int x2)] [] (ss_e s) _
  unfold F_Tr_gatherFacts
  refine sv_aload_n (pc := 0) 0 (sv_d k_Tr_gatherFacts 0 rfl) rfl rfl ?_
  refine sv_iload_n (pc := 1) 1 (sv_d k_Tr_gatherFacts 1 rfl) rfl rfl ?_
  refine sv_callV (pc := 2) (ψ := (ss_pq E s)) (As := [.int x1]) (rest := []) (c := 151) (sv_d k_Tr_gatherFacts 2 rfl) g_Tr_rateOfTruck w976 in_Tr_rateOfTruck se_Tr_rateOfTruck cf9 kd151 (ss_lt (by decide)) rfl (Nat.le_of_ble_eq_true rfl) (V_Tr_rateOfTruck E (d + 0) x1 s) (Nat.le_of_ble_eq_true rfl) rfl (fun r1 => ?_)
  show sv_V E _ _ _ 5 _ [sv_r E r1] (ss_e s) _
  refine ss_gd2 (fun h_g2 o_g2 l_g2 => ?_)
  refine sv_astore_n (pc := 5) (lv' := [(3, sv_r E r1), (0, sv_r E 151), (1, .int x1), (2, .int x2)]) (sv_d k_Tr_gatherFacts 3 rfl) rfl (by decide) rfl ?_
  refine sv_aload_n (pc := 6) 1 (sv_d k_Tr_gatherFacts 4 rfl) rfl rfl ?_
  refine sv_iload_n (pc := 7) 3 (sv_d k_Tr_gatherFacts 5 rfl) rfl rfl ?_
  refine sv_callV (pc := 8) (ψ := (ss_pq E s)) (As := [.int x2]) (rest := []) (c := 151) (sv_d k_Tr_gatherFacts 6 rfl) g_Tr_rateOfTruck w976 in_Tr_rateOfTruck se_Tr_rateOfTruck cf9 kd151 (ss_lt (by decide)) rfl (Nat.le_of_ble_eq_true rfl) (V_Tr_rateOfTruck E (d + 0) x2 s) (Nat.le_of_ble_eq_true rfl) rfl (fun r3 => ?_)
  show sv_V E _ _ _ 11 _ [sv_r E r3] (ss_e s) _
  refine ss_gd2 (fun h_g4 o_g4 l_g4 => ?_)
  refine sv_astore (pc := 11) (lv' := [(4, sv_r E r3), (3, sv_r E r1), (0, sv_r E 151), (1, .int x1), (2, .int x2)]) (sv_d k_Tr_gatherFacts 7 rfl) (by decide) rfl ?_
  refine sv_aload_n (pc := 13) 2 (sv_d k_Tr_gatherFacts 8 rfl) rfl rfl ?_
  refine sv_getf (pc := 14) 6 (sv_d k_Tr_gatherFacts 9 rfl) cf9 (by decide) w357 kd151 (ss_lt (by decide)) (lr_151_6 E _) ?_
  refine sv_iload_n (pc := 17) 3 (sv_d k_Tr_gatherFacts 10 rfl) rfl rfl ?_
  refine ss_iald (pc := 18) (n := 80) (sv_d k_Tr_gatherFacts 11 rfl) kd156 (ss_lt (by decide)) rfl ?_
  refine sv_aload_n (pc := 19) 2 (sv_d k_Tr_gatherFacts 12 rfl) rfl rfl ?_
  refine sv_getf (pc := 20) 6 (sv_d k_Tr_gatherFacts 13 rfl) cf9 (by decide) w357 kd151 (ss_lt (by decide)) (lr_151_6 E _) ?_
  refine sv_iload_n (pc := 23) 4 (sv_d k_Tr_gatherFacts 14 rfl) rfl rfl ?_
  refine ss_iald (pc := 24) (n := 80) (sv_d k_Tr_gatherFacts 15 rfl) kd156 (ss_lt (by decide)) rfl ?_
  refine sv_callS (pc := 25) (ψ := (ss_pi s)) (As := [.int (s.1 156 x1.toNatClampNeg), .int (s.1 156 x2.toNatClampNeg)]) (rest := []) (sv_d k_Tr_gatherFacts 16 rfl) g_JM_max w995 st_JM_max rfl (Nat.le_of_ble_eq_true rfl) (V_JM_max E (d + 1) (s.1 156 x1.toNatClampNeg) (s.1 156 x2.toNatClampNeg) s) (Nat.le_of_ble_eq_true rfl) rfl (fun r5 => ?_)
  show sv_V E _ _ _ 28 _ [.int r5] (ss_e s) _
  refine sv_istore (pc := 28) (lv' := [(5, .int r5), (4, sv_r E r3), (3, sv_r E r1), (0, sv_r E 151), (1, .int x1), (2, .int x2)]) (sv_d k_Tr_gatherFacts 17 rfl) (by decide) rfl ?_
  refine sv_aload_n (pc := 30) 3 (sv_d k_Tr_gatherFacts 18 rfl) rfl rfl ?_
  refine sv_getf (pc := 31) 7 (sv_d k_Tr_gatherFacts 19 rfl) cf9 (by decide) w358 kd151 (ss_lt (by decide)) (lr_151_7 E _) ?_
  refine sv_iconst (pc := 34) (v := (0 : Int32)) (sv_d k_Tr_gatherFacts 20 rfl) (by decide) ?_
  refine sv_aload_n (pc := 35) 3 (sv_d k_Tr_gatherFacts 21 rfl) rfl rfl ?_
  refine sv_getf (pc := 36) 3 (sv_d k_Tr_gatherFacts 22 rfl) cf9 (by decide) w354 kd151 (ss_lt (by decide)) (lr_151_3 E _) ?_
  refine sv_iload_n (pc := 39) 4 (sv_d k_Tr_gatherFacts 23 rfl) rfl rfl ?_
  refine ss_iald (pc := 40) (n := 80) (sv_d k_Tr_gatherFacts 24 rfl) kd153 (ss_lt (by decide)) rfl ?_
  refine ss_iast (pc := 41) (n := 7) (sv_d k_Tr_gatherFacts 25 rfl) kd157 (by decide) (ss_lt (by decide)) rfl (ss_lets (fun s6 e_s6 => ?_))
  have l_g2 : r1 < 243 + s6.2.2.2.2.1 := by rw [e_s6]; exact l_g2
  have l_g4 : r3 < 243 + s6.2.2.2.2.1 := by rw [e_s6]; exact l_g4
  refine sv_aload_n (pc := 42) 3 (sv_d k_Tr_gatherFacts 26 rfl) rfl rfl ?_
  refine sv_getf (pc := 43) 7 (sv_d k_Tr_gatherFacts 27 rfl) cf9 (by decide) w358 kd151 (ss_lt (by decide)) (lr_151_7 E _) ?_
  refine sv_iconst (pc := 46) (v := (1 : Int32)) (sv_d k_Tr_gatherFacts 28 rfl) (by decide) ?_
  refine sv_aload_n (pc := 47) 3 (sv_d k_Tr_gatherFacts 29 rfl) rfl rfl ?_
  refine sv_getf (pc := 48) 1 (sv_d k_Tr_gatherFacts 30 rfl) cf9 (by decide) w352 kd151 (ss_lt (by decide)) (lr_151_1 E _) ?_
  refine sv_aload_n (pc := 51) 2 (sv_d k_Tr_gatherFacts 31 rfl) rfl rfl ?_
  refine sv_getN (pc := 52) 2 (sv_d k_Tr_gatherFacts 32 rfl) cf5 (by decide) w268 h_g2 l_g2 rfl ?_
  refine sv_iload (pc := 55) 0 (sv_d k_Tr_gatherFacts 33 rfl) rfl ?_
  refine sv_bipush (pc := 57) (v := (20 : Int32)) (sv_d k_Tr_gatherFacts 34 rfl) (by decide) ?_
  refine sv_aload_n (pc := 59) 3 (sv_d k_Tr_gatherFacts 35 rfl) rfl rfl ?_
  refine sv_getf (pc := 60) 3 (sv_d k_Tr_gatherFacts 36 rfl) cf9 (by decide) w354 kd151 (ss_lt (by decide)) (lr_151_3 E _) ?_
  refine sv_iload_n (pc := 63) 4 (sv_d k_Tr_gatherFacts 37 rfl) rfl rfl ?_
  refine ss_iald (pc := 64) (n := 80) (sv_d k_Tr_gatherFacts 38 rfl) kd153 (ss_lt (by decide)) rfl ?_
  refine sv_iadd (pc := 65) (sv_d k_Tr_gatherFacts 39 rfl) ?_
  refine sv_callV (pc := 66) (ψ := ss_i) (As := [.int (s6.1 r1 2), .int r5, .int ((20 : Int32) + (s6.1 153 x1.toNatClampNeg))]) (rest := [.int (1 : Int32), sv_r E 157]) (c := 81) (sv_d k_Tr_gatherFacts 40 rfl) g_Ls_value w996 in_Ls_value se_Ls_value cf4 kd81 (ss_lt (by decide)) rfl (Nat.le_of_ble_eq_true rfl) (V_Ls_value E (d + 0) (s6.1 r1 2) r5 ((20 : Int32) + (s6.1 153 x1.toNatClampNeg)) s6) (Nat.le_of_ble_eq_true rfl) rfl (fun r7 => ?_)
  show sv_V E _ _ _ 69 _ [.int r7.1, .int (1 : Int32), sv_r E 157] (ss_e r7.2) _
  refine ss_iast (pc := 69) (n := 7) (sv_d k_Tr_gatherFacts 41 rfl) kd157 (by decide) (ss_lt (by decide)) rfl (ss_lets (fun s8 e_s8 => ?_))
  refine sv_aload_n (pc := 70) 3 (sv_d k_Tr_gatherFacts 42 rfl) rfl rfl ?_
  refine sv_getf (pc := 71) 7 (sv_d k_Tr_gatherFacts 43 rfl) cf9 (by decide) w358 kd151 (ss_lt (by decide)) (lr_151_7 E _) ?_
  refine sv_iconst (pc := 74) (v := (2 : Int32)) (sv_d k_Tr_gatherFacts 44 rfl) (by decide) ?_
  refine sv_aload_n (pc := 75) 2 (sv_d k_Tr_gatherFacts 45 rfl) rfl rfl ?_
  refine sv_getN (pc := 76) 2 (sv_d k_Tr_gatherFacts 46 rfl) cf5 (by decide) w268 h_g2 (ss_l5 h_g2) rfl ?_
  refine ss_iast (pc := 79) (n := 7) (sv_d k_Tr_gatherFacts 47 rfl) kd157 (by decide) (ss_lt (by decide)) rfl (ss_lets (fun s9 e_s9 => ?_))
  refine sv_aload_n (pc := 80) 3 (sv_d k_Tr_gatherFacts 48 rfl) rfl rfl ?_
  refine sv_getf (pc := 81) 7 (sv_d k_Tr_gatherFacts 49 rfl) cf9 (by decide) w358 kd151 (ss_lt (by decide)) (lr_151_7 E _) ?_
  refine sv_iconst (pc := 84) (v := (3 : Int32)) (sv_d k_Tr_gatherFacts 50 rfl) (by decide) ?_
  refine sv_aload_n (pc := 85) 3 (sv_d k_Tr_gatherFacts 51 rfl) rfl rfl ?_
  refine sv_getf (pc := 86) 4 (sv_d k_Tr_gatherFacts 52 rfl) cf9 (by decide) w355 kd151 (ss_lt (by decide)) (lr_151_4 E _) ?_
  refine sv_iload_n (pc := 89) 4 (sv_d k_Tr_gatherFacts 53 rfl) rfl rfl ?_
  refine ss_iald (pc := 90) (n := 80) (sv_d k_Tr_gatherFacts 54 rfl) kd154 (ss_lt (by decide)) rfl ?_
  refine ss_iast (pc := 91) (n := 7) (sv_d k_Tr_gatherFacts 55 rfl) kd157 (by decide) (ss_lt (by decide)) rfl (ss_lets (fun s10 e_s10 => ?_))
  refine sv_aload_n (pc := 92) 3 (sv_d k_Tr_gatherFacts 56 rfl) rfl rfl ?_
  refine sv_getf (pc := 93) 7 (sv_d k_Tr_gatherFacts 57 rfl) cf9 (by decide) w358 kd151 (ss_lt (by decide)) (lr_151_7 E _) ?_
  refine sv_iconst (pc := 96) (v := (4 : Int32)) (sv_d k_Tr_gatherFacts 58 rfl) (by decide) ?_
  refine sv_aload_n (pc := 97) 3 (sv_d k_Tr_gatherFacts 59 rfl) rfl rfl ?_
  refine sv_getf (pc := 98) 6 (sv_d k_Tr_gatherFacts 60 rfl) cf9 (by decide) w357 kd151 (ss_lt (by decide)) (lr_151_6 E _) ?_
  refine sv_iload_n (pc := 101) 4 (sv_d k_Tr_gatherFacts 61 rfl) rfl rfl ?_
  refine ss_iald (pc := 102) (n := 80) (sv_d k_Tr_gatherFacts 62 rfl) kd156 (ss_lt (by decide)) rfl ?_
  refine sv_aload_n (pc := 103) 3 (sv_d k_Tr_gatherFacts 63 rfl) rfl rfl ?_
  refine sv_getf (pc := 104) 6 (sv_d k_Tr_gatherFacts 64 rfl) cf9 (by decide) w357 kd151 (ss_lt (by decide)) (lr_151_6 E _) ?_
  refine sv_iload_n (pc := 107) 5 (sv_d k_Tr_gatherFacts 65 rfl) rfl rfl ?_
  refine ss_iald (pc := 108) (n := 80) (sv_d k_Tr_gatherFacts 66 rfl) kd156 (ss_lt (by decide)) rfl ?_
  refine sv_isub (pc := 109) (sv_d k_Tr_gatherFacts 67 rfl) ?_
  refine sv_callS (pc := 110) (ψ := (ss_pi s10)) (As := [.int ((s10.1 156 x1.toNatClampNeg) - (s10.1 156 x2.toNatClampNeg))]) (rest := [.int (4 : Int32), sv_r E 157]) (sv_d k_Tr_gatherFacts 68 rfl) g_JM_abs w997 st_JM_abs rfl (Nat.le_of_ble_eq_true rfl) (V_JM_abs E (d + 1) ((s10.1 156 x1.toNatClampNeg) - (s10.1 156 x2.toNatClampNeg)) s10) (Nat.le_of_ble_eq_true rfl) rfl (fun r11 => ?_)
  show sv_V E _ _ _ 113 _ [.int r11, .int (4 : Int32), sv_r E 157] (ss_e s10) _
  refine ss_iast (pc := 113) (n := 7) (sv_d k_Tr_gatherFacts 69 rfl) kd157 (by decide) (ss_lt (by decide)) rfl (ss_lets (fun s12 e_s12 => ?_))
  refine sv_aload_n (pc := 114) 3 (sv_d k_Tr_gatherFacts 70 rfl) rfl rfl ?_
  refine sv_getf (pc := 115) 7 (sv_d k_Tr_gatherFacts 71 rfl) cf9 (by decide) w358 kd151 (ss_lt (by decide)) (lr_151_7 E _) ?_
  refine sv_iconst (pc := 118) (v := (5 : Int32)) (sv_d k_Tr_gatherFacts 72 rfl) (by decide) ?_
  refine sv_aload_n (pc := 119) 2 (sv_d k_Tr_gatherFacts 73 rfl) rfl rfl ?_
  refine sv_getN (pc := 120) 1 (sv_d k_Tr_gatherFacts 74 rfl) cf5 (by decide) w263 h_g2 (ss_l5 h_g2) rfl ?_
  refine sv_iconst (pc := 123) (v := (4 : Int32)) (sv_d k_Tr_gatherFacts 75 rfl) (by decide) ?_
  refine sv_icmp_eq (pc := 124) (tgt := 136) (sv_d k_Tr_gatherFacts 76 rfl) (by decide) ?_ ?_
  · exact sv_loc [3, 2, 1] rfl (V_Tr_gatherFacts_b136 E d r1 r3 (5 : Int32) s12 h_g2 o_g2 (ss_l5 h_g2) h_g4 o_g4 (ss_l5 h_g4))
  · refine sv_aload (pc := 127) 1 (sv_d k_Tr_gatherFacts 77 rfl) rfl ?_
    refine sv_getN (pc := 129) 1 (sv_d k_Tr_gatherFacts 78 rfl) cf5 (by decide) w263 h_g4 (ss_l5 h_g4) rfl ?_
    refine sv_iconst (pc := 132) (v := (4 : Int32)) (sv_d k_Tr_gatherFacts 79 rfl) (by decide) ?_
    refine sv_icmp_ne (pc := 133) (tgt := 140) (sv_d k_Tr_gatherFacts 80 rfl) (by decide) ?_ ?_
    · refine sv_iconst (pc := 140) (v := (0 : Int32)) (sv_d k_Tr_gatherFacts 83 rfl) (by decide) ?_
      exact sv_loc [3, 2, 1] rfl (V_Tr_gatherFacts_b141 E d r1 r3 (5 : Int32) (0 : Int32) s12 h_g2 o_g2 (ss_l5 h_g2) h_g4 o_g4 (ss_l5 h_g4))
    · exact sv_loc [3, 2, 1] rfl (V_Tr_gatherFacts_b136 E d r1 r3 (5 : Int32) s12 h_g2 o_g2 (ss_l5 h_g2) h_g4 o_g4 (ss_l5 h_g4))
/-! Tr_areSame -/
abbrev m_Tr_areSame : sv_M := (yX9_areSame, cX9_areSame, 5, (some .boolean))
def t_Tr_areSame : List (Nat × Instr × Nat) := [(0, .aload_n 0, 1), (1, .iload_n 1, 1), (2, .invokevirtual 53, 3), (5, .astore_n 3, 1), (6, .aload_n 0, 1), (7, .iload_n 2, 1), (8, .invokevirtual 53, 3), (11, .astore 4, 2), (13, .aload_n 0, 1), (14, .getfield 15, 3), (17, .iload_n 1, 1), (18, .iaload, 1), (19, .aload_n 0, 1), (20, .getfield 15, 3), (23, .iload_n 2, 1), (24, .iaload, 1), (25, .if_icmp .ne 27, 3), (28, .aload_n 3, 1), (29, .getfield 95, 3), (32, .aload 4, 2), (34, .getfield 95, 3), (37, .if_icmp .ne 15, 3), (40, .aload_n 3, 1), (41, .getfield 98, 3), (44, .aload 4, 2), (46, .getfield 98, 3), (49, .if_icmp .eq 5, 3), (52, .iconst 0, 1), (53, .ireturn, 1), (54, .aload_n 0, 1), (55, .iload_n 1, 1), (56, .iload_n 2, 1), (57, .invokevirtual 101, 3), (60, .aload_n 0, 1), (61, .iload_n 1, 1), (62, .iload_n 2, 1), (63, .invokevirtual 105, 3), (66, .getfield 108, 3), (69, .aload_n 0, 1), (70, .getfield 29, 3), (73, .iconst 1, 1), (74, .invokestatic 111, 3), (77, .ireturn, 1)]
theorem k_Tr_areSame : sv_tk m_Tr_areSame.2.1 t_Tr_areSame := by decide +kernel
theorem g_Tr_areSame : sv_G m_Tr_areSame 2 := ⟨by decide +kernel, sv_in 990 (by decide +kernel) rfl, sv_in 98 (by decide +kernel) rfl, ⟨by decide, by decide⟩, by decide +kernel, by decide⟩
theorem in_Tr_areSame : Cond.instanceMethod m_Tr_areSame.1 ∈ sv_T := sv_in 988 (by decide +kernel) rfl
theorem se_Tr_areSame : Cond.selects m_Tr_areSame.1.cls m_Tr_areSame.1 m_Tr_areSame.1 ∈ sv_T := sv_in 989 (by decide +kernel) rfl
def F_Tr_areSame (x1 : Int32) (x2 : Int32) (s : sv_S) : Option (Int32 × sv_S) :=
  (F_Tr_rateOfTruck x1 s).bind fun r1 =>
  if ss_ok2 s r1 5 = true then
    (F_Tr_rateOfTruck x2 s).bind fun r3 =>
    if ss_ok2 s r3 5 = true then
      if sv_ib x1 80 = true then
        if sv_ib x2 80 = true then
          if (s.1 153 x1.toNatClampNeg) = (s.1 153 x2.toNatClampNeg) then
            if (s.1 r1 3) = (s.1 r3 3) then
              if (s.1 r1 4) = (s.1 r3 4) then
                (F_Tr_gatherFacts x1 x2 s).bind fun r5 =>
                (F_Tr_courtsLaw x1 x2 r5).bind fun r6 =>
                if ss_ok2 r6.2 r6.1 2 = true then
                  (ss_LR r6.1 4).bind fun w8 => if ss_ok2 r6.2 w8 20 = true then
                    (F_Lw_judge w8 157 (1 : Int32) r6.2).bind fun r10 =>
                    if sv_bl r10 = true then some (r10, r6.2) else none
                  else none
                else none
              else
              some ((0 : Int32), s)
            else
            some ((0 : Int32), s)
          else
          some ((0 : Int32), s)
        else none
      else none
    else none
  else none
theorem V_Tr_areSame (E : sv_E) (d : Nat) (x1 : Int32) (x2 : Int32) (s : sv_S) : sv_V E m_Tr_areSame (d + 3) ss_i 0 (lv_args 0 [sv_r E 151, .int x1, .int x2]) [] (ss_e s) (F_Tr_areSame x1 x2 s) := by
  show sv_V E m_Tr_areSame (d + 3) ss_i 0 [(0, sv_r E 151), (1, .int x1), (2, .int x2)] [] (ss_e s) _
  unfold F_Tr_areSame
  refine sv_aload_n (pc := 0) 0 (sv_d k_Tr_areSame 0 rfl) rfl rfl ?_
  refine sv_iload_n (pc := 1) 1 (sv_d k_Tr_areSame 1 rfl) rfl rfl ?_
  refine sv_callV (pc := 2) (ψ := (ss_pq E s)) (As := [.int x1]) (rest := []) (c := 151) (sv_d k_Tr_areSame 2 rfl) g_Tr_rateOfTruck w976 in_Tr_rateOfTruck se_Tr_rateOfTruck cf9 kd151 (ss_lt (by decide)) rfl (Nat.le_of_ble_eq_true rfl) (V_Tr_rateOfTruck E (d + 1) x1 s) (Nat.le_of_ble_eq_true rfl) rfl (fun r1 => ?_)
  show sv_V E _ _ _ 5 _ [sv_r E r1] (ss_e s) _
  refine ss_gd2 (fun h_g2 o_g2 l_g2 => ?_)
  refine sv_astore_n (pc := 5) (lv' := [(3, sv_r E r1), (0, sv_r E 151), (1, .int x1), (2, .int x2)]) (sv_d k_Tr_areSame 3 rfl) rfl (by decide) rfl ?_
  refine sv_aload_n (pc := 6) 1 (sv_d k_Tr_areSame 4 rfl) rfl rfl ?_
  refine sv_iload_n (pc := 7) 3 (sv_d k_Tr_areSame 5 rfl) rfl rfl ?_
  refine sv_callV (pc := 8) (ψ := (ss_pq E s)) (As := [.int x2]) (rest := []) (c := 151) (sv_d k_Tr_areSame 6 rfl) g_Tr_rateOfTruck w976 in_Tr_rateOfTruck se_Tr_rateOfTruck cf9 kd151 (ss_lt (by decide)) rfl (Nat.le_of_ble_eq_true rfl) (V_Tr_rateOfTruck E (d + 1) x2 s) (Nat.le_of_ble_eq_true rfl) rfl (fun r3 => ?_)
  show sv_V E _ _ _ 11 _ [sv_r E r3] (ss_e s) _
  refine ss_gd2 (fun h_g4 o_g4 l_g4 => ?_)
  refine sv_astore (pc := 11) (lv' := [(4, sv_r E r3), (3, sv_r E r1), (0, sv_r E 151), (1, .int x1), (2, .int x2)]) (sv_d k_Tr_areSame 7 rfl) (by decide) rfl ?_
  refine sv_aload_n (pc := 13) 2 (sv_d k_Tr_areSame 8 rfl) rfl rfl ?_
  refine sv_getf (pc := 14) 3 (sv_d k_Tr_areSame 9 rfl) cf9 (by decide) w354 kd151 (ss_lt (by decide)) (lr_151_3 E _) ?_
  refine sv_iload_n (pc := 17) 3 (sv_d k_Tr_areSame 10 rfl) rfl rfl ?_
  refine ss_iald (pc := 18) (n := 80) (sv_d k_Tr_areSame 11 rfl) kd153 (ss_lt (by decide)) rfl ?_
  refine sv_aload_n (pc := 19) 2 (sv_d k_Tr_areSame 12 rfl) rfl rfl ?_
  refine sv_getf (pc := 20) 3 (sv_d k_Tr_areSame 13 rfl) cf9 (by decide) w354 kd151 (ss_lt (by decide)) (lr_151_3 E _) ?_
  refine sv_iload_n (pc := 23) 4 (sv_d k_Tr_areSame 14 rfl) rfl rfl ?_
  refine ss_iald (pc := 24) (n := 80) (sv_d k_Tr_areSame 15 rfl) kd153 (ss_lt (by decide)) rfl ?_
  refine sv_icmp_ne (pc := 25) (tgt := 52) (sv_d k_Tr_areSame 16 rfl) (by decide) ?_ ?_
  · refine sv_iconst (pc := 52) (v := (0 : Int32)) (sv_d k_Tr_areSame 27 rfl) (by decide) ?_
    exact sv_ret (pc := 53) (sv_d k_Tr_areSame 28 rfl) ⟨_, rfl, rfl⟩ rfl
  · refine sv_aload_n (pc := 28) 1 (sv_d k_Tr_areSame 17 rfl) rfl rfl ?_
    refine sv_getN (pc := 29) 3 (sv_d k_Tr_areSame 18 rfl) cf5 (by decide) w274 h_g2 l_g2 rfl ?_
    refine sv_aload (pc := 32) 0 (sv_d k_Tr_areSame 19 rfl) rfl ?_
    refine sv_getN (pc := 34) 3 (sv_d k_Tr_areSame 20 rfl) cf5 (by decide) w274 h_g4 l_g4 rfl ?_
    refine sv_icmp_ne (pc := 37) (tgt := 52) (sv_d k_Tr_areSame 21 rfl) (by decide) ?_ ?_
    · refine sv_iconst (pc := 52) (v := (0 : Int32)) (sv_d k_Tr_areSame 27 rfl) (by decide) ?_
      exact sv_ret (pc := 53) (sv_d k_Tr_areSame 28 rfl) ⟨_, rfl, rfl⟩ rfl
    · refine sv_aload_n (pc := 40) 1 (sv_d k_Tr_areSame 22 rfl) rfl rfl ?_
      refine sv_getN (pc := 41) 4 (sv_d k_Tr_areSame 23 rfl) cf5 (by decide) w279 h_g2 l_g2 rfl ?_
      refine sv_aload (pc := 44) 0 (sv_d k_Tr_areSame 24 rfl) rfl ?_
      refine sv_getN (pc := 46) 4 (sv_d k_Tr_areSame 25 rfl) cf5 (by decide) w279 h_g4 l_g4 rfl ?_
      refine sv_icmp_eq (pc := 49) (tgt := 54) (sv_d k_Tr_areSame 26 rfl) (by decide) ?_ ?_
      · refine sv_aload_n (pc := 54) 2 (sv_d k_Tr_areSame 29 rfl) rfl rfl ?_
        refine sv_iload_n (pc := 55) 3 (sv_d k_Tr_areSame 30 rfl) rfl rfl ?_
        refine sv_iload_n (pc := 56) 4 (sv_d k_Tr_areSame 31 rfl) rfl rfl ?_
        refine sv_callV (pc := 57) (ψ := ss_v) (As := [.int x1, .int x2]) (rest := []) (c := 151) (sv_d k_Tr_areSame 32 rfl) g_Tr_gatherFacts w991 in_Tr_gatherFacts se_Tr_gatherFacts cf9 kd151 (ss_lt (by decide)) rfl (Nat.le_of_ble_eq_true rfl) (V_Tr_gatherFacts E (d + 0) x1 x2 s) (Nat.le_of_ble_eq_true rfl) rfl (fun r5 => ?_)
        show sv_V E _ _ _ 60 _ [] (ss_e r5) _
        refine sv_aload_n (pc := 60) 2 (sv_d k_Tr_areSame 33 rfl) rfl rfl ?_
        refine sv_iload_n (pc := 61) 3 (sv_d k_Tr_areSame 34 rfl) rfl rfl ?_
        refine sv_iload_n (pc := 62) 4 (sv_d k_Tr_areSame 35 rfl) rfl rfl ?_
        refine sv_callV (pc := 63) (ψ := (ss_q E)) (As := [.int x1, .int x2]) (rest := []) (c := 151) (sv_d k_Tr_areSame 36 rfl) g_Tr_courtsLaw w1003 in_Tr_courtsLaw se_Tr_courtsLaw cf9 kd151 (ss_lt (by decide)) rfl (Nat.le_of_ble_eq_true rfl) (V_Tr_courtsLaw E (d + 1) x1 x2 r5) (Nat.le_of_ble_eq_true rfl) rfl (fun r6 => ?_)
        show sv_V E _ _ _ 66 _ [sv_r E r6.1] (ss_e r6.2) _
        refine ss_gd2 (fun h_g7 o_g7 l_g7 => ?_)
        refine ss_getRN (pc := 66) 4 (sv_d k_Tr_areSame 37 rfl) cf2 (by decide) w213 h_g7 l_g7 rfl (by decide) (fun w8 => ss_gd2 (fun h_w8 o_w8 l_w8 => ?_))
        refine sv_aload_n (pc := 69) 2 (sv_d k_Tr_areSame 38 rfl) rfl rfl ?_
        refine sv_getf (pc := 70) 7 (sv_d k_Tr_areSame 39 rfl) cf9 (by decide) w358 kd151 (ss_lt (by decide)) (lr_151_7 E _) ?_
        refine sv_iconst (pc := 73) (v := (1 : Int32)) (sv_d k_Tr_areSame 40 rfl) (by decide) ?_
        refine sv_callS (pc := 74) (ψ := (ss_pi r6.2)) (As := [sv_r E w8, sv_r E 157, .int (1 : Int32)]) (rest := []) (sv_d k_Tr_areSame 41 rfl) g_Lw_judge w1008 st_Lw_judge rfl (Nat.le_of_ble_eq_true rfl) (V_Lw_judge E (d + 1) w8 157 (1 : Int32) r6.2 h_w8 o_w8 l_w8 kd157 (by decide) (ss_lt (s := r6.2) (by decide))) (Nat.le_of_ble_eq_true rfl) rfl (fun r10 => ?_)
        show sv_V E _ _ _ 77 _ [.int r10] (ss_e r6.2) _
        exact ss_grd (fun bb11 => sv_ret (pc := 77) (sv_d k_Tr_areSame 42 rfl) ⟨_, rfl, sv_bln bb11⟩ rfl)
      · refine sv_iconst (pc := 52) (v := (0 : Int32)) (sv_d k_Tr_areSame 27 rfl) (by decide) ?_
        exact sv_ret (pc := 53) (sv_d k_Tr_areSame 28 rfl) ⟨_, rfl, rfl⟩ rfl
/-! Tr_areUnlike -/
abbrev m_Tr_areUnlike : sv_M := (yX9_areUnlike, cX9_areUnlike, 3, (some .boolean))
def t_Tr_areUnlike : List (Nat × Instr × Nat) := [(0, .aload_n 0, 1), (1, .getfield 21, 3), (4, .iload_n 1, 1), (5, .iaload, 1), (6, .aload_n 0, 1), (7, .getfield 18, 3), (10, .iload_n 2, 1), (11, .iaload, 1), (12, .imul, 1), (13, .aload_n 0, 1), (14, .getfield 21, 3), (17, .iload_n 2, 1), (18, .iaload, 1), (19, .aload_n 0, 1), (20, .getfield 18, 3), (23, .iload_n 1, 1), (24, .iaload, 1), (25, .imul, 1), (26, .if_icmp .eq 12, 3), (29, .aload_n 0, 1), (30, .iload_n 1, 1), (31, .iload_n 2, 1), (32, .invokevirtual 115, 3), (35, .ifCond .ne 5, 3), (38, .iconst 0, 1), (39, .ireturn, 1), (40, .aload_n 0, 1), (41, .iload_n 1, 1), (42, .iload_n 2, 1), (43, .invokevirtual 105, 3), (46, .getfield 119, 3), (49, .aload_n 0, 1), (50, .getfield 29, 3), (53, .iconst 0, 1), (54, .invokestatic 111, 3), (57, .ifCond .ne 7, 3), (60, .iconst 1, 1), (61, .goto 4, 3), (64, .iconst 0, 1), (65, .ireturn, 1)]
theorem k_Tr_areUnlike : sv_tk m_Tr_areUnlike.2.1 t_Tr_areUnlike := by decide +kernel
theorem g_Tr_areUnlike : sv_G m_Tr_areUnlike 2 := ⟨by decide +kernel, sv_in 1018 (by decide +kernel) rfl, sv_in 98 (by decide +kernel) rfl, ⟨by decide, by decide⟩, by decide +kernel, by decide⟩
theorem in_Tr_areUnlike : Cond.instanceMethod m_Tr_areUnlike.1 ∈ sv_T := sv_in 1016 (by decide +kernel) rfl
theorem se_Tr_areUnlike : Cond.selects m_Tr_areUnlike.1.cls m_Tr_areUnlike.1 m_Tr_areUnlike.1 ∈ sv_T := sv_in 1017 (by decide +kernel) rfl
def F_Tr_areUnlike (x1 : Int32) (x2 : Int32) (s : sv_S) : Option (Int32 × sv_S) :=
  if sv_ib x1 80 = true then
    if sv_ib x2 80 = true then
      if sv_ib x2 80 = true then
        if sv_ib x1 80 = true then
          if ((s.1 155 x1.toNatClampNeg) * (s.1 154 x2.toNatClampNeg)) = ((s.1 155 x2.toNatClampNeg) * (s.1 154 x1.toNatClampNeg)) then
            some ((0 : Int32), s)
          else
          (F_Tr_areSame x1 x2 s).bind fun r1 =>
          if r1.1 = 0 then
            some ((0 : Int32), r1.2)
          else
          (F_Tr_courtsLaw x1 x2 r1.2).bind fun r2 =>
          if ss_ok2 r2.2 r2.1 2 = true then
            (ss_LR r2.1 5).bind fun w4 => if ss_ok2 r2.2 w4 20 = true then
              (F_Lw_judge w4 157 (0 : Int32) r2.2).bind fun r6 =>
              if r6 = 0 then
                some ((1 : Int32), r2.2)
              else
              some ((0 : Int32), r2.2)
            else none
          else none
        else none
      else none
    else none
  else none
theorem V_Tr_areUnlike (E : sv_E) (d : Nat) (x1 : Int32) (x2 : Int32) (s : sv_S) : sv_V E m_Tr_areUnlike (d + 4) ss_i 0 (lv_args 0 [sv_r E 151, .int x1, .int x2]) [] (ss_e s) (F_Tr_areUnlike x1 x2 s) := by
  show sv_V E m_Tr_areUnlike (d + 4) ss_i 0 [(0, sv_r E 151), (1, .int x1), (2, .int x2)] [] (ss_e s) _
  unfold F_Tr_areUnlike
  refine sv_aload_n (pc := 0) 0 (sv_d k_Tr_areUnlike 0 rfl) rfl rfl ?_
  refine sv_getf (pc := 1) 5 (sv_d k_Tr_areUnlike 1 rfl) cf9 (by decide) w356 kd151 (ss_lt (by decide)) (lr_151_5 E _) ?_
  refine sv_iload_n (pc := 4) 1 (sv_d k_Tr_areUnlike 2 rfl) rfl rfl ?_
  refine ss_iald (pc := 5) (n := 80) (sv_d k_Tr_areUnlike 3 rfl) kd155 (ss_lt (by decide)) rfl ?_
  refine sv_aload_n (pc := 6) 0 (sv_d k_Tr_areUnlike 4 rfl) rfl rfl ?_
  refine sv_getf (pc := 7) 4 (sv_d k_Tr_areUnlike 5 rfl) cf9 (by decide) w355 kd151 (ss_lt (by decide)) (lr_151_4 E _) ?_
  refine sv_iload_n (pc := 10) 2 (sv_d k_Tr_areUnlike 6 rfl) rfl rfl ?_
  refine ss_iald (pc := 11) (n := 80) (sv_d k_Tr_areUnlike 7 rfl) kd154 (ss_lt (by decide)) rfl ?_
  refine sv_imul (pc := 12) (sv_d k_Tr_areUnlike 8 rfl) ?_
  refine sv_aload_n (pc := 13) 0 (sv_d k_Tr_areUnlike 9 rfl) rfl rfl ?_
  refine sv_getf (pc := 14) 5 (sv_d k_Tr_areUnlike 10 rfl) cf9 (by decide) w356 kd151 (ss_lt (by decide)) (lr_151_5 E _) ?_
  refine sv_iload_n (pc := 17) 2 (sv_d k_Tr_areUnlike 11 rfl) rfl rfl ?_
  refine ss_iald (pc := 18) (n := 80) (sv_d k_Tr_areUnlike 12 rfl) kd155 (ss_lt (by decide)) rfl ?_
  refine sv_aload_n (pc := 19) 0 (sv_d k_Tr_areUnlike 13 rfl) rfl rfl ?_
  refine sv_getf (pc := 20) 4 (sv_d k_Tr_areUnlike 14 rfl) cf9 (by decide) w355 kd151 (ss_lt (by decide)) (lr_151_4 E _) ?_
  refine sv_iload_n (pc := 23) 1 (sv_d k_Tr_areUnlike 15 rfl) rfl rfl ?_
  refine ss_iald (pc := 24) (n := 80) (sv_d k_Tr_areUnlike 16 rfl) kd154 (ss_lt (by decide)) rfl ?_
  refine sv_imul (pc := 25) (sv_d k_Tr_areUnlike 17 rfl) ?_
  refine sv_icmp_eq (pc := 26) (tgt := 38) (sv_d k_Tr_areUnlike 18 rfl) (by decide) ?_ ?_
  · refine sv_iconst (pc := 38) (v := (0 : Int32)) (sv_d k_Tr_areUnlike 24 rfl) (by decide) ?_
    exact sv_ret (pc := 39) (sv_d k_Tr_areUnlike 25 rfl) ⟨_, rfl, rfl⟩ rfl
  · refine sv_aload_n (pc := 29) 0 (sv_d k_Tr_areUnlike 19 rfl) rfl rfl ?_
    refine sv_iload_n (pc := 30) 1 (sv_d k_Tr_areUnlike 20 rfl) rfl rfl ?_
    refine sv_iload_n (pc := 31) 2 (sv_d k_Tr_areUnlike 21 rfl) rfl rfl ?_
    refine sv_callV (pc := 32) (ψ := ss_i) (As := [.int x1, .int x2]) (rest := []) (c := 151) (sv_d k_Tr_areUnlike 22 rfl) g_Tr_areSame w1019 in_Tr_areSame se_Tr_areSame cf9 kd151 (ss_lt (by decide)) rfl (Nat.le_of_ble_eq_true rfl) (V_Tr_areSame E (d + 0) x1 x2 s) (Nat.le_of_ble_eq_true rfl) rfl (fun r1 => ?_)
    show sv_V E _ _ _ 35 _ [.int r1.1] (ss_e r1.2) _
    refine sv_if_ne (pc := 35) (tgt := 40) (sv_d k_Tr_areUnlike 23 rfl) (by decide) ?_ ?_
    · refine sv_aload_n (pc := 40) 0 (sv_d k_Tr_areUnlike 26 rfl) rfl rfl ?_
      refine sv_iload_n (pc := 41) 1 (sv_d k_Tr_areUnlike 27 rfl) rfl rfl ?_
      refine sv_iload_n (pc := 42) 2 (sv_d k_Tr_areUnlike 28 rfl) rfl rfl ?_
      refine sv_callV (pc := 43) (ψ := (ss_q E)) (As := [.int x1, .int x2]) (rest := []) (c := 151) (sv_d k_Tr_areUnlike 29 rfl) g_Tr_courtsLaw w1003 in_Tr_courtsLaw se_Tr_courtsLaw cf9 kd151 (ss_lt (by decide)) rfl (Nat.le_of_ble_eq_true rfl) (V_Tr_courtsLaw E (d + 2) x1 x2 r1.2) (Nat.le_of_ble_eq_true rfl) rfl (fun r2 => ?_)
      show sv_V E _ _ _ 46 _ [sv_r E r2.1] (ss_e r2.2) _
      refine ss_gd2 (fun h_g3 o_g3 l_g3 => ?_)
      refine ss_getRN (pc := 46) 5 (sv_d k_Tr_areUnlike 30 rfl) cf2 (by decide) w215 h_g3 l_g3 rfl (by decide) (fun w4 => ss_gd2 (fun h_w4 o_w4 l_w4 => ?_))
      refine sv_aload_n (pc := 49) 0 (sv_d k_Tr_areUnlike 31 rfl) rfl rfl ?_
      refine sv_getf (pc := 50) 7 (sv_d k_Tr_areUnlike 32 rfl) cf9 (by decide) w358 kd151 (ss_lt (by decide)) (lr_151_7 E _) ?_
      refine sv_iconst (pc := 53) (v := (0 : Int32)) (sv_d k_Tr_areUnlike 33 rfl) (by decide) ?_
      refine sv_callS (pc := 54) (ψ := (ss_pi r2.2)) (As := [sv_r E w4, sv_r E 157, .int (0 : Int32)]) (rest := []) (sv_d k_Tr_areUnlike 34 rfl) g_Lw_judge w1008 st_Lw_judge rfl (Nat.le_of_ble_eq_true rfl) (V_Lw_judge E (d + 2) w4 157 (0 : Int32) r2.2 h_w4 o_w4 l_w4 kd157 (by decide) (ss_lt (s := r2.2) (by decide))) (Nat.le_of_ble_eq_true rfl) rfl (fun r6 => ?_)
      show sv_V E _ _ _ 57 _ [.int r6] (ss_e r2.2) _
      refine sv_if_ne (pc := 57) (tgt := 64) (sv_d k_Tr_areUnlike 35 rfl) (by decide) ?_ ?_
      · refine sv_iconst (pc := 64) (v := (0 : Int32)) (sv_d k_Tr_areUnlike 38 rfl) (by decide) ?_
        exact sv_ret (pc := 65) (sv_d k_Tr_areUnlike 39 rfl) ⟨_, rfl, rfl⟩ rfl
      · refine sv_iconst (pc := 60) (v := (1 : Int32)) (sv_d k_Tr_areUnlike 36 rfl) (by decide) ?_
        refine sv_goto (pc := 61) (tgt := 65) (sv_d k_Tr_areUnlike 37 rfl) (by decide) ?_
        exact sv_ret (pc := 65) (sv_d k_Tr_areUnlike 39 rfl) ⟨_, rfl, rfl⟩ rfl
    · refine sv_iconst (pc := 38) (v := (0 : Int32)) (sv_d k_Tr_areUnlike 24 rfl) (by decide) ?_
      exact sv_ret (pc := 39) (sv_d k_Tr_areUnlike 25 rfl) ⟨_, rfl, rfl⟩ rfl
/-! Tr_countUnlike -/
abbrev m_Tr_countUnlike : sv_M := (yX9_countUnlike, cX9_countUnlike, 4, (some .int))
def t_Tr_countUnlike : List (Nat × Instr × Nat) := [(0, .iconst 0, 1), (1, .istore_n 1, 1), (2, .iconst 0, 1), (3, .istore_n 2, 1), (4, .iload_n 2, 1), (5, .aload_n 0, 1), (6, .getfield 43, 3), (9, .if_icmp .ge 39, 3), (12, .iload_n 2, 1), (13, .iconst 1, 1), (14, .iadd, 1), (15, .istore_n 3, 1), (16, .iload_n 3, 1), (17, .aload_n 0, 1), (18, .getfield 43, 3), (21, .if_icmp .ge 21, 3), (24, .iload_n 1, 1), (25, .aload_n 0, 1), (26, .iload_n 2, 1), (27, .iload_n 3, 1), (28, .invokevirtual 122, 3), (31, .invokestatic 91, 3), (34, .iadd, 1), (35, .istore_n 1, 1), (36, .iinc 3 1, 3), (39, .goto (-23), 3), (42, .iinc 2 1, 3), (45, .goto (-41), 3), (48, .iload_n 1, 1), (49, .ireturn, 1)]
theorem k_Tr_countUnlike : sv_tk m_Tr_countUnlike.2.1 t_Tr_countUnlike := by decide +kernel
theorem g_Tr_countUnlike : sv_G m_Tr_countUnlike 0 := ⟨by decide +kernel, sv_in 1027 (by decide +kernel) rfl, sv_in 98 (by decide +kernel) rfl, ⟨by decide, by decide⟩, by decide +kernel, by decide⟩
theorem in_Tr_countUnlike : Cond.instanceMethod m_Tr_countUnlike.1 ∈ sv_T := sv_in 1025 (by decide +kernel) rfl
theorem se_Tr_countUnlike : Cond.selects m_Tr_countUnlike.1.cls m_Tr_countUnlike.1 m_Tr_countUnlike.1 ∈ sv_T := sv_in 1026 (by decide +kernel) rfl
def F_Tr_countUnlike_b16 (kc4 : Int32 → Int32 → sv_S → Option (Int32 × sv_S)) : Nat → Int32 → Int32 → Int32 → sv_S → Option (Int32 × sv_S)
  | 0 => fun _ _ _ _ => none
  | n + 1 => fun x1 x2 x3 s =>
    if (s.1 151 10) ≤ x3 then
      ss_let (x2 + (1 : Int32)) fun v2 =>
      kc4 x1 v2 s
    else
    (F_Tr_areUnlike x2 x3 s).bind fun r3 =>
    (F_Tr_oneIf r3.1 r3.2).bind fun r4 =>
    ss_let (x1 + r4) fun v5 =>
    ss_let (x3 + (1 : Int32)) fun v6 =>
    F_Tr_countUnlike_b16 kc4 n v5 x2 v6 r3.2
theorem V_Tr_countUnlike_b16 (E : sv_E) (d : Nat) (kc4 : Int32 → Int32 → sv_S → Option (Int32 × sv_S)) (hc4 : ∀ (x1 : Int32) (x2 : Int32) (s : sv_S), sv_V E m_Tr_countUnlike (d + 5) ss_i 4 [(0, sv_r E 151), (1, .int x1), (2, .int x2)] [] (ss_e s) (kc4 x1 x2 s)) : ∀ (n : Nat) (x1 : Int32) (x2 : Int32) (x3 : Int32) (s : sv_S), sv_V E m_Tr_countUnlike (d + 5) ss_i 16 [(0, sv_r E 151), (1, .int x1), (2, .int x2), (3, .int x3)] [] (ss_e s) (F_Tr_countUnlike_b16 kc4 n x1 x2 x3 s) := by
  intro n
  induction n with
  | zero => intro x1 x2 x3 s; exact sv_none
  | succ n ih =>
    intro x1 x2 x3 s
    unfold F_Tr_countUnlike_b16
    refine sv_iload_n (pc := 16) 3 (sv_d k_Tr_countUnlike 12 rfl) rfl rfl ?_
    refine sv_aload_n (pc := 17) 0 (sv_d k_Tr_countUnlike 13 rfl) rfl rfl ?_
    refine sv_getf (pc := 18) 10 (sv_d k_Tr_countUnlike 14 rfl) cf9 (by decide) w361 kd151 (ss_lt (by decide)) rfl ?_
    refine sv_icmp_ge (pc := 21) (tgt := 42) (sv_d k_Tr_countUnlike 15 rfl) (by decide) ?_ ?_
    · refine ss_letr (fun v2 e_v2 => ?_)
      refine sv_iinc (pc := 42) (v := v2) (lv' := [(2, .int v2), (0, sv_r E 151), (1, .int x1), (3, .int x3)]) (sv_d k_Tr_countUnlike 26 rfl) (n := 2) rfl (by rw [e_v2]; rfl) (by decide) rfl ?_
      refine sv_goto (pc := 45) (tgt := 4) (sv_d k_Tr_countUnlike 27 rfl) (by decide) ?_
      exact sv_loc [1, 2, 0] rfl (hc4 x1 v2 s)
    · refine sv_iload_n (pc := 24) 1 (sv_d k_Tr_countUnlike 16 rfl) rfl rfl ?_
      refine sv_aload_n (pc := 25) 0 (sv_d k_Tr_countUnlike 17 rfl) rfl rfl ?_
      refine sv_iload_n (pc := 26) 2 (sv_d k_Tr_countUnlike 18 rfl) rfl rfl ?_
      refine sv_iload_n (pc := 27) 3 (sv_d k_Tr_countUnlike 19 rfl) rfl rfl ?_
      refine sv_callV (pc := 28) (ψ := ss_i) (As := [.int x2, .int x3]) (rest := [.int x1]) (c := 151) (sv_d k_Tr_countUnlike 20 rfl) g_Tr_areUnlike w1028 in_Tr_areUnlike se_Tr_areUnlike cf9 kd151 (ss_lt (by decide)) rfl (Nat.le_of_ble_eq_true rfl) (V_Tr_areUnlike E (d + 0) x2 x3 s) (Nat.le_of_ble_eq_true rfl) rfl (fun r3 => ?_)
      show sv_V E _ _ _ 31 _ [.int r3.1, .int x1] (ss_e r3.2) _
      refine sv_callS (pc := 31) (ψ := (ss_pi r3.2)) (As := [.int r3.1]) (rest := [.int x1]) (sv_d k_Tr_countUnlike 21 rfl) g_Tr_oneIf w1000 st_Tr_oneIf rfl (Nat.le_of_ble_eq_true rfl) (V_Tr_oneIf E (d + 4) r3.1 r3.2) (Nat.le_of_ble_eq_true rfl) rfl (fun r4 => ?_)
      show sv_V E _ _ _ 34 _ [.int r4, .int x1] (ss_e r3.2) _
      refine sv_iadd (pc := 34) (sv_d k_Tr_countUnlike 22 rfl) ?_
      refine ss_top (fun v5 e_v5 => ?_)
      refine sv_istore_n (pc := 35) (lv' := [(1, .int v5), (0, sv_r E 151), (2, .int x2), (3, .int x3)]) (sv_d k_Tr_countUnlike 23 rfl) rfl (by decide) rfl ?_
      refine ss_letr (fun v6 e_v6 => ?_)
      refine sv_iinc (pc := 36) (v := v6) (lv' := [(3, .int v6), (1, .int v5), (0, sv_r E 151), (2, .int x2)]) (sv_d k_Tr_countUnlike 24 rfl) (n := 3) rfl (by rw [e_v6]; rfl) (by decide) rfl ?_
      refine sv_goto (pc := 39) (tgt := 16) (sv_d k_Tr_countUnlike 25 rfl) (by decide) ?_
      exact sv_loc [2, 1, 3, 0] rfl (ih v5 x2 v6 r3.2)
def F_Tr_countUnlike_b4 : Nat → Int32 → Int32 → sv_S → Option (Int32 × sv_S)
  | 0 => fun _ _ _ => none
  | n + 1 => fun x1 x2 s =>
    if (s.1 151 10) ≤ x2 then
      some (x1, s)
    else
    ss_let (x2 + (1 : Int32)) fun v1 =>
    F_Tr_countUnlike_b16 (F_Tr_countUnlike_b4  n) ss_F x1 x2 v1 s
theorem V_Tr_countUnlike_b4 (E : sv_E) (d : Nat) : ∀ (n : Nat) (x1 : Int32) (x2 : Int32) (s : sv_S), sv_V E m_Tr_countUnlike (d + 5) ss_i 4 [(0, sv_r E 151), (1, .int x1), (2, .int x2)] [] (ss_e s) (F_Tr_countUnlike_b4 n x1 x2 s) := by
  intro n
  induction n with
  | zero => intro x1 x2 s; exact sv_none
  | succ n ih =>
    intro x1 x2 s
    unfold F_Tr_countUnlike_b4
    refine sv_iload_n (pc := 4) 2 (sv_d k_Tr_countUnlike 4 rfl) rfl rfl ?_
    refine sv_aload_n (pc := 5) 0 (sv_d k_Tr_countUnlike 5 rfl) rfl rfl ?_
    refine sv_getf (pc := 6) 10 (sv_d k_Tr_countUnlike 6 rfl) cf9 (by decide) w361 kd151 (ss_lt (by decide)) rfl ?_
    refine sv_icmp_ge (pc := 9) (tgt := 48) (sv_d k_Tr_countUnlike 7 rfl) (by decide) ?_ ?_
    · refine sv_iload_n (pc := 48) 1 (sv_d k_Tr_countUnlike 28 rfl) rfl rfl ?_
      exact sv_ret (pc := 49) (sv_d k_Tr_countUnlike 29 rfl) ⟨_, rfl, rfl⟩ rfl
    · refine sv_iload_n (pc := 12) 2 (sv_d k_Tr_countUnlike 8 rfl) rfl rfl ?_
      refine sv_iconst (pc := 13) (v := (1 : Int32)) (sv_d k_Tr_countUnlike 9 rfl) (by decide) ?_
      refine sv_iadd (pc := 14) (sv_d k_Tr_countUnlike 10 rfl) ?_
      refine ss_top (fun v1 e_v1 => ?_)
      refine sv_istore_n (pc := 15) (lv' := [(3, .int v1), (0, sv_r E 151), (1, .int x1), (2, .int x2)]) (sv_d k_Tr_countUnlike 11 rfl) rfl (by decide) rfl ?_
      exact sv_loc [1, 2, 3, 0] rfl (V_Tr_countUnlike_b16 E d (F_Tr_countUnlike_b4  n) ih ss_F x1 x2 v1 s)
def F_Tr_countUnlike (s : sv_S) : Option (Int32 × sv_S) :=
  F_Tr_countUnlike_b4 ss_F (0 : Int32) (0 : Int32) s
theorem V_Tr_countUnlike (E : sv_E) (d : Nat) (s : sv_S) : sv_V E m_Tr_countUnlike (d + 5) ss_i 0 (lv_args 0 [sv_r E 151]) [] (ss_e s) (F_Tr_countUnlike s) := by
  show sv_V E m_Tr_countUnlike (d + 5) ss_i 0 [(0, sv_r E 151)] [] (ss_e s) _
  unfold F_Tr_countUnlike
  refine sv_iconst (pc := 0) (v := (0 : Int32)) (sv_d k_Tr_countUnlike 0 rfl) (by decide) ?_
  refine sv_istore_n (pc := 1) (lv' := [(1, .int (0 : Int32)), (0, sv_r E 151)]) (sv_d k_Tr_countUnlike 1 rfl) rfl (by decide) rfl ?_
  refine sv_iconst (pc := 2) (v := (0 : Int32)) (sv_d k_Tr_countUnlike 2 rfl) (by decide) ?_
  refine sv_istore_n (pc := 3) (lv' := [(2, .int (0 : Int32)), (1, .int (0 : Int32)), (0, sv_r E 151)]) (sv_d k_Tr_countUnlike 3 rfl) rfl (by decide) rfl ?_
  exact sv_loc [2, 1, 0] rfl (V_Tr_countUnlike_b4 E d ss_F (0 : Int32) (0 : Int32) s)
/-! Tr_firstUnlike -/
abbrev m_Tr_firstUnlike : sv_M := (yX9_firstUnlike, cX9_firstUnlike, 4, (some .int))
def t_Tr_firstUnlike : List (Nat × Instr × Nat) := [(0, .iconst 0, 1), (1, .istore_n 2, 1), (2, .iload_n 2, 1), (3, .aload_n 0, 1), (4, .getfield 43, 3), (7, .if_icmp .ge 46, 3), (10, .iload_n 2, 1), (11, .iconst 1, 1), (12, .iadd, 1), (13, .istore_n 3, 1), (14, .iload_n 3, 1), (15, .aload_n 0, 1), (16, .getfield 43, 3), (19, .if_icmp .ge 28, 3), (22, .aload_n 0, 1), (23, .iload_n 2, 1), (24, .iload_n 3, 1), (25, .invokevirtual 122, 3), (28, .ifCond .eq 13, 3), (31, .iload_n 1, 1), (32, .ifCond .eq 7, 3), (35, .iload_n 3, 1), (36, .goto 4, 3), (39, .iload_n 2, 1), (40, .ireturn, 1), (41, .iinc 3 1, 3), (44, .goto (-30), 3), (47, .iinc 2 1, 3), (50, .goto (-48), 3), (53, .iconst (-1), 1), (54, .ireturn, 1)]
theorem k_Tr_firstUnlike : sv_tk m_Tr_firstUnlike.2.1 t_Tr_firstUnlike := by decide +kernel
theorem g_Tr_firstUnlike : sv_G m_Tr_firstUnlike 1 := ⟨by decide +kernel, sv_in 1032 (by decide +kernel) rfl, sv_in 98 (by decide +kernel) rfl, ⟨by decide, by decide⟩, by decide +kernel, by decide⟩
theorem in_Tr_firstUnlike : Cond.instanceMethod m_Tr_firstUnlike.1 ∈ sv_T := sv_in 1030 (by decide +kernel) rfl
theorem se_Tr_firstUnlike : Cond.selects m_Tr_firstUnlike.1.cls m_Tr_firstUnlike.1 m_Tr_firstUnlike.1 ∈ sv_T := sv_in 1031 (by decide +kernel) rfl
def F_Tr_firstUnlike_b14 (kc2 : Int32 → Int32 → sv_S → Option (Int32 × sv_S)) : Nat → Int32 → Int32 → Int32 → sv_S → Option (Int32 × sv_S)
  | 0 => fun _ _ _ _ => none
  | n + 1 => fun x1 x2 x3 s =>
    if (s.1 151 10) ≤ x3 then
      ss_let (x2 + (1 : Int32)) fun v2 =>
      kc2 x1 v2 s
    else
    (F_Tr_areUnlike x2 x3 s).bind fun r3 =>
    if r3.1 = 0 then
      ss_let (x3 + (1 : Int32)) fun v4 =>
      F_Tr_firstUnlike_b14 kc2 n x1 x2 v4 r3.2
    else
    if x1 = 0 then
      some (x2, r3.2)
    else
    some (x3, r3.2)
theorem V_Tr_firstUnlike_b14 (E : sv_E) (d : Nat) (kc2 : Int32 → Int32 → sv_S → Option (Int32 × sv_S)) (hc2 : ∀ (x1 : Int32) (x2 : Int32) (s : sv_S), sv_V E m_Tr_firstUnlike (d + 5) ss_i 2 [(0, sv_r E 151), (1, .int x1), (2, .int x2)] [] (ss_e s) (kc2 x1 x2 s)) : ∀ (n : Nat) (x1 : Int32) (x2 : Int32) (x3 : Int32) (s : sv_S), sv_V E m_Tr_firstUnlike (d + 5) ss_i 14 [(0, sv_r E 151), (1, .int x1), (2, .int x2), (3, .int x3)] [] (ss_e s) (F_Tr_firstUnlike_b14 kc2 n x1 x2 x3 s) := by
  intro n
  induction n with
  | zero => intro x1 x2 x3 s; exact sv_none
  | succ n ih =>
    intro x1 x2 x3 s
    unfold F_Tr_firstUnlike_b14
    refine sv_iload_n (pc := 14) 3 (sv_d k_Tr_firstUnlike 10 rfl) rfl rfl ?_
    refine sv_aload_n (pc := 15) 0 (sv_d k_Tr_firstUnlike 11 rfl) rfl rfl ?_
    refine sv_getf (pc := 16) 10 (sv_d k_Tr_firstUnlike 12 rfl) cf9 (by decide) w361 kd151 (ss_lt (by decide)) rfl ?_
    refine sv_icmp_ge (pc := 19) (tgt := 47) (sv_d k_Tr_firstUnlike 13 rfl) (by decide) ?_ ?_
    · refine ss_letr (fun v2 e_v2 => ?_)
      refine sv_iinc (pc := 47) (v := v2) (lv' := [(2, .int v2), (0, sv_r E 151), (1, .int x1), (3, .int x3)]) (sv_d k_Tr_firstUnlike 27 rfl) (n := 2) rfl (by rw [e_v2]; rfl) (by decide) rfl ?_
      refine sv_goto (pc := 50) (tgt := 2) (sv_d k_Tr_firstUnlike 28 rfl) (by decide) ?_
      exact sv_loc [1, 2, 0] rfl (hc2 x1 v2 s)
    · refine sv_aload_n (pc := 22) 0 (sv_d k_Tr_firstUnlike 14 rfl) rfl rfl ?_
      refine sv_iload_n (pc := 23) 2 (sv_d k_Tr_firstUnlike 15 rfl) rfl rfl ?_
      refine sv_iload_n (pc := 24) 3 (sv_d k_Tr_firstUnlike 16 rfl) rfl rfl ?_
      refine sv_callV (pc := 25) (ψ := ss_i) (As := [.int x2, .int x3]) (rest := []) (c := 151) (sv_d k_Tr_firstUnlike 17 rfl) g_Tr_areUnlike w1028 in_Tr_areUnlike se_Tr_areUnlike cf9 kd151 (ss_lt (by decide)) rfl (Nat.le_of_ble_eq_true rfl) (V_Tr_areUnlike E (d + 0) x2 x3 s) (Nat.le_of_ble_eq_true rfl) rfl (fun r3 => ?_)
      show sv_V E _ _ _ 28 _ [.int r3.1] (ss_e r3.2) _
      refine sv_if_eq (pc := 28) (tgt := 41) (sv_d k_Tr_firstUnlike 18 rfl) (by decide) ?_ ?_
      · refine ss_letr (fun v4 e_v4 => ?_)
        refine sv_iinc (pc := 41) (v := v4) (lv' := [(3, .int v4), (0, sv_r E 151), (1, .int x1), (2, .int x2)]) (sv_d k_Tr_firstUnlike 25 rfl) (n := 3) rfl (by rw [e_v4]; rfl) (by decide) rfl ?_
        refine sv_goto (pc := 44) (tgt := 14) (sv_d k_Tr_firstUnlike 26 rfl) (by decide) ?_
        exact sv_loc [1, 2, 3, 0] rfl (ih x1 x2 v4 r3.2)
      · refine sv_iload_n (pc := 31) 1 (sv_d k_Tr_firstUnlike 19 rfl) rfl rfl ?_
        refine sv_if_eq (pc := 32) (tgt := 39) (sv_d k_Tr_firstUnlike 20 rfl) (by decide) ?_ ?_
        · refine sv_iload_n (pc := 39) 2 (sv_d k_Tr_firstUnlike 23 rfl) rfl rfl ?_
          exact sv_ret (pc := 40) (sv_d k_Tr_firstUnlike 24 rfl) ⟨_, rfl, rfl⟩ rfl
        · refine sv_iload_n (pc := 35) 3 (sv_d k_Tr_firstUnlike 21 rfl) rfl rfl ?_
          refine sv_goto (pc := 36) (tgt := 40) (sv_d k_Tr_firstUnlike 22 rfl) (by decide) ?_
          exact sv_ret (pc := 40) (sv_d k_Tr_firstUnlike 24 rfl) ⟨_, rfl, rfl⟩ rfl
def F_Tr_firstUnlike_b2 : Nat → Int32 → Int32 → sv_S → Option (Int32 × sv_S)
  | 0 => fun _ _ _ => none
  | n + 1 => fun x1 x2 s =>
    if (s.1 151 10) ≤ x2 then
      some ((-1 : Int32), s)
    else
    ss_let (x2 + (1 : Int32)) fun v1 =>
    F_Tr_firstUnlike_b14 (F_Tr_firstUnlike_b2  n) ss_F x1 x2 v1 s
theorem V_Tr_firstUnlike_b2 (E : sv_E) (d : Nat) : ∀ (n : Nat) (x1 : Int32) (x2 : Int32) (s : sv_S), sv_V E m_Tr_firstUnlike (d + 5) ss_i 2 [(0, sv_r E 151), (1, .int x1), (2, .int x2)] [] (ss_e s) (F_Tr_firstUnlike_b2 n x1 x2 s) := by
  intro n
  induction n with
  | zero => intro x1 x2 s; exact sv_none
  | succ n ih =>
    intro x1 x2 s
    unfold F_Tr_firstUnlike_b2
    refine sv_iload_n (pc := 2) 2 (sv_d k_Tr_firstUnlike 2 rfl) rfl rfl ?_
    refine sv_aload_n (pc := 3) 0 (sv_d k_Tr_firstUnlike 3 rfl) rfl rfl ?_
    refine sv_getf (pc := 4) 10 (sv_d k_Tr_firstUnlike 4 rfl) cf9 (by decide) w361 kd151 (ss_lt (by decide)) rfl ?_
    refine sv_icmp_ge (pc := 7) (tgt := 53) (sv_d k_Tr_firstUnlike 5 rfl) (by decide) ?_ ?_
    · refine sv_iconst (pc := 53) (v := (-1 : Int32)) (sv_d k_Tr_firstUnlike 29 rfl) (by decide) ?_
      exact sv_ret (pc := 54) (sv_d k_Tr_firstUnlike 30 rfl) ⟨_, rfl, rfl⟩ rfl
    · refine sv_iload_n (pc := 10) 2 (sv_d k_Tr_firstUnlike 6 rfl) rfl rfl ?_
      refine sv_iconst (pc := 11) (v := (1 : Int32)) (sv_d k_Tr_firstUnlike 7 rfl) (by decide) ?_
      refine sv_iadd (pc := 12) (sv_d k_Tr_firstUnlike 8 rfl) ?_
      refine ss_top (fun v1 e_v1 => ?_)
      refine sv_istore_n (pc := 13) (lv' := [(3, .int v1), (0, sv_r E 151), (1, .int x1), (2, .int x2)]) (sv_d k_Tr_firstUnlike 9 rfl) rfl (by decide) rfl ?_
      exact sv_loc [1, 2, 3, 0] rfl (V_Tr_firstUnlike_b14 E d (F_Tr_firstUnlike_b2  n) ih ss_F x1 x2 v1 s)
def F_Tr_firstUnlike (x1 : Int32) (s : sv_S) : Option (Int32 × sv_S) :=
  F_Tr_firstUnlike_b2 ss_F x1 (0 : Int32) s
theorem V_Tr_firstUnlike (E : sv_E) (d : Nat) (x1 : Int32) (s : sv_S) : sv_V E m_Tr_firstUnlike (d + 5) ss_i 0 (lv_args 0 [sv_r E 151, .int x1]) [] (ss_e s) (F_Tr_firstUnlike x1 s) := by
  show sv_V E m_Tr_firstUnlike (d + 5) ss_i 0 [(0, sv_r E 151), (1, .int x1)] [] (ss_e s) _
  unfold F_Tr_firstUnlike
  refine sv_iconst (pc := 0) (v := (0 : Int32)) (sv_d k_Tr_firstUnlike 0 rfl) (by decide) ?_
  refine sv_istore_n (pc := 1) (lv' := [(2, .int (0 : Int32)), (0, sv_r E 151), (1, .int x1)]) (sv_d k_Tr_firstUnlike 1 rfl) rfl (by decide) rfl ?_
  exact sv_loc [1, 2, 0] rfl (V_Tr_firstUnlike_b2 E d ss_F x1 (0 : Int32) s)
/-! Tr_claim -/
abbrev m_Tr_claim : sv_M := (yX9_claim, cX9_claim, 7, (some .long))
def t_Tr_claim : List (Nat × Instr × Nat) := [(0, .aload_n 0, 1), (1, .iload_n 1, 1), (2, .invokevirtual 129, 3), (5, .istore 4, 2), (7, .iload 4, 2), (9, .ifCond .lt 14, 3), (12, .iload 4, 2), (14, .aload_n 0, 1), (15, .getfield 21, 3), (18, .iload_n 1, 1), (19, .iaload, 1), (20, .if_icmp .lt 5, 3), (23, .lconst 0, 1), (24, .lreturn, 1), (25, .aload_n 0, 1), (26, .getfield 21, 3), (29, .iload_n 1, 1), (30, .iaload, 1), (31, .iload 4, 2), (33, .isub, 1), (34, .i2l, 1), (35, .lstore 5, 2), (37, .lload 5, 2), (39, .lload 5, 2), (41, .iload_n 2, 1), (42, .i2l, 1), (43, .lmul, 1), (44, .iload_n 3, 1), (45, .sipush 365, 3), (48, .idiv, 1), (49, .i2l, 1), (50, .lmul, 1), (51, .ldc2_w 132, 3), (54, .ldiv, 1), (55, .ladd, 1), (56, .lreturn, 1)]
theorem k_Tr_claim : sv_tk m_Tr_claim.2.1 t_Tr_claim := by decide +kernel
theorem g_Tr_claim : sv_G m_Tr_claim 3 := ⟨by decide +kernel, sv_in 1044 (by decide +kernel) rfl, sv_in 98 (by decide +kernel) rfl, ⟨by decide, by decide⟩, by decide +kernel, by decide⟩
theorem in_Tr_claim : Cond.instanceMethod m_Tr_claim.1 ∈ sv_T := sv_in 1043 (by decide +kernel) rfl
theorem se_Tr_claim : Cond.selects m_Tr_claim.1.cls m_Tr_claim.1 m_Tr_claim.1 ∈ sv_T := sv_in 23 (by decide +kernel) rfl
def F_Tr_claim (x1 : Int32) (x2 : Int32) (x3 : Int32) (s : sv_S) : Option (Int64 × sv_S) :=
  (F_Tr_dueOf x1 s).bind fun r1 =>
  if r1.1 < 0 then
    some ((0 : Int64), r1.2)
  else
  if sv_ib x1 80 = true then
    if r1.1 < (r1.2.1 155 x1.toNatClampNeg) then
      if sv_ib x1 80 = true then
        ss_let (((r1.2.1 155 x1.toNatClampNeg) - r1.1).toInt64) fun v2 =>
        some (v2 + (((v2 * x2.toInt64) * ((x3 / (365 : Int32)).toInt64)) / (1000 : Int64)), r1.2)
      else none
    else
    some ((0 : Int64), r1.2)
  else none
theorem V_Tr_claim (E : sv_E) (d : Nat) (x1 : Int32) (x2 : Int32) (x3 : Int32) (s : sv_S) : sv_V E m_Tr_claim (d + 4) ss_l 0 (lv_args 0 [sv_r E 151, .int x1, .int x2, .int x3]) [] (ss_e s) (F_Tr_claim x1 x2 x3 s) := by
  show sv_V E m_Tr_claim (d + 4) ss_l 0 [(0, sv_r E 151), (1, .int x1), (2, .int x2), (3, .int x3)] [] (ss_e s) _
  unfold F_Tr_claim
  refine sv_aload_n (pc := 0) 0 (sv_d k_Tr_claim 0 rfl) rfl rfl ?_
  refine sv_iload_n (pc := 1) 1 (sv_d k_Tr_claim 1 rfl) rfl rfl ?_
  refine sv_callV (pc := 2) (ψ := ss_i) (As := [.int x1]) (rest := []) (c := 151) (sv_d k_Tr_claim 2 rfl) g_Tr_dueOf w1045 in_Tr_dueOf se_Tr_dueOf cf9 kd151 (ss_lt (by decide)) rfl (Nat.le_of_ble_eq_true rfl) (V_Tr_dueOf E (d + 0) x1 s) (Nat.le_of_ble_eq_true rfl) rfl (fun r1 => ?_)
  show sv_V E _ _ _ 5 _ [.int r1.1] (ss_e r1.2) _
  refine sv_istore (pc := 5) (lv' := [(4, .int r1.1), (0, sv_r E 151), (1, .int x1), (2, .int x2), (3, .int x3)]) (sv_d k_Tr_claim 3 rfl) (by decide) rfl ?_
  refine sv_iload (pc := 7) 0 (sv_d k_Tr_claim 4 rfl) rfl ?_
  refine sv_if_lt (pc := 9) (tgt := 23) (sv_d k_Tr_claim 5 rfl) (by decide) ?_ ?_
  · refine sv_lconst (pc := 23) (v := (0 : Int64)) (sv_d k_Tr_claim 12 rfl) (by decide) ?_
    exact sv_ret (pc := 24) (sv_d k_Tr_claim 13 rfl) ⟨_, rfl⟩ rfl
  · refine sv_iload (pc := 12) 0 (sv_d k_Tr_claim 6 rfl) rfl ?_
    refine sv_aload_n (pc := 14) 1 (sv_d k_Tr_claim 7 rfl) rfl rfl ?_
    refine sv_getf (pc := 15) 5 (sv_d k_Tr_claim 8 rfl) cf9 (by decide) w356 kd151 (ss_lt (by decide)) (lr_151_5 E _) ?_
    refine sv_iload_n (pc := 18) 2 (sv_d k_Tr_claim 9 rfl) rfl rfl ?_
    refine ss_iald (pc := 19) (n := 80) (sv_d k_Tr_claim 10 rfl) kd155 (ss_lt (by decide)) rfl ?_
    refine sv_icmp_lt (pc := 20) (tgt := 25) (sv_d k_Tr_claim 11 rfl) (by decide) ?_ ?_
    · refine sv_aload_n (pc := 25) 1 (sv_d k_Tr_claim 14 rfl) rfl rfl ?_
      refine sv_getf (pc := 26) 5 (sv_d k_Tr_claim 15 rfl) cf9 (by decide) w356 kd151 (ss_lt (by decide)) (lr_151_5 E _) ?_
      refine sv_iload_n (pc := 29) 2 (sv_d k_Tr_claim 16 rfl) rfl rfl ?_
      refine ss_iald (pc := 30) (n := 80) (sv_d k_Tr_claim 17 rfl) kd155 (ss_lt (by decide)) rfl ?_
      refine sv_iload (pc := 31) 0 (sv_d k_Tr_claim 18 rfl) rfl ?_
      refine sv_isub (pc := 33) (sv_d k_Tr_claim 19 rfl) ?_
      refine sv_i2l (pc := 34) (sv_d k_Tr_claim 20 rfl) ?_
      refine ss_topL (fun v2 e_v2 => ?_)
      refine sv_lstore (pc := 35) (lv' := [(5, .long v2), (4, .int r1.1), (0, sv_r E 151), (1, .int x1), (2, .int x2), (3, .int x3)]) (sv_d k_Tr_claim 21 rfl) (by decide) rfl ?_
      refine sv_lload (pc := 37) 0 (sv_d k_Tr_claim 22 rfl) rfl ?_
      refine sv_lload (pc := 39) 0 (sv_d k_Tr_claim 23 rfl) rfl ?_
      refine sv_iload_n (pc := 41) 4 (sv_d k_Tr_claim 24 rfl) rfl rfl ?_
      refine sv_i2l (pc := 42) (sv_d k_Tr_claim 25 rfl) ?_
      refine sv_lmul (pc := 43) (sv_d k_Tr_claim 26 rfl) ?_
      refine sv_iload_n (pc := 44) 5 (sv_d k_Tr_claim 27 rfl) rfl rfl ?_
      refine sv_sipush (pc := 45) (v := (365 : Int32)) (sv_d k_Tr_claim 28 rfl) (by decide) ?_
      refine sv_idivK (pc := 48) (sv_d k_Tr_claim 29 rfl) (by decide) ?_
      refine sv_i2l (pc := 49) (sv_d k_Tr_claim 30 rfl) ?_
      refine sv_lmul (pc := 50) (sv_d k_Tr_claim 31 rfl) ?_
      refine sv_ldc2 (pc := 51) (v := (1000 : Int64)) w1046 (sv_d k_Tr_claim 32 rfl) ?_
      refine sv_ldivK (pc := 54) (sv_d k_Tr_claim 33 rfl) (by decide) ?_
      refine sv_ladd (pc := 55) (sv_d k_Tr_claim 34 rfl) ?_
      exact sv_ret (pc := 56) (sv_d k_Tr_claim 35 rfl) ⟨_, rfl⟩ rfl
    · refine sv_lconst (pc := 23) (v := (0 : Int64)) (sv_d k_Tr_claim 12 rfl) (by decide) ?_
      exact sv_ret (pc := 24) (sv_d k_Tr_claim 13 rfl) ⟨_, rfl⟩ rfl
/-! Tr_claims -/
abbrev m_Tr_claims : sv_M := (yX9_claims, cX9_claims, 9, (some .long))
def t_Tr_claims : List (Nat × Instr × Nat) := [(0, .aload_n 0, 1), (1, .getfield 39, 3), (4, .iconst (-1), 1), (5, .iload_n 2, 1), (6, .iconst 4, 1), (7, .invokevirtual 80, 3), (10, .istore_n 3, 1), (11, .aload_n 0, 1), (12, .getfield 39, 3), (15, .iconst (-1), 1), (16, .iload_n 2, 1), (17, .iconst 5, 1), (18, .invokevirtual 80, 3), (21, .istore 4, 2), (23, .lconst 0, 1), (24, .lstore 5, 2), (26, .iconst 0, 1), (27, .istore 7, 2), (29, .iload 7, 2), (31, .aload_n 0, 1), (32, .getfield 43, 3), (35, .if_icmp .ge 54, 3), (38, .iload_n 2, 1), (39, .aload_n 0, 1), (40, .getfield 24, 3), (43, .iload 7, 2), (45, .iaload, 1), (46, .isub, 1), (47, .istore 8, 2), (49, .aload_n 0, 1), (50, .iload 7, 2), (52, .invokevirtual 53, 3), (55, .getfield 95, 3), (58, .iload_n 1, 1), (59, .if_icmp .ne 24, 3), (62, .iload 8, 2), (64, .iload_n 3, 1), (65, .if_icmp .gt 18, 3), (68, .lload 5, 2), (70, .aload_n 0, 1), (71, .iload 7, 2), (73, .iload 4, 2), (75, .iload 8, 2), (77, .invokevirtual 125, 3), (80, .ladd, 1), (81, .lstore 5, 2), (83, .iinc 7 1, 3), (86, .goto (-57), 3), (89, .lload 5, 2), (91, .lreturn, 1)]
theorem k_Tr_claims : sv_tk m_Tr_claims.2.1 t_Tr_claims := by decide +kernel
theorem g_Tr_claims : sv_G m_Tr_claims 2 := ⟨by decide +kernel, sv_in 1040 (by decide +kernel) rfl, sv_in 98 (by decide +kernel) rfl, ⟨by decide, by decide⟩, by decide +kernel, by decide⟩
theorem in_Tr_claims : Cond.instanceMethod m_Tr_claims.1 ∈ sv_T := sv_in 1038 (by decide +kernel) rfl
theorem se_Tr_claims : Cond.selects m_Tr_claims.1.cls m_Tr_claims.1 m_Tr_claims.1 ∈ sv_T := sv_in 1039 (by decide +kernel) rfl
def F_Tr_claims_b83 (kc29 : Int32 → Int32 → Int32 → Int32 → Int64 → Int32 → sv_S → Option (Int64 × sv_S)) (x1 : Int32) (x2 : Int32) (x3 : Int32) (x4 : Int32) (y5 : Int64) (x7 : Int32) (s : sv_S) : Option (Int64 × sv_S) :=
  ss_let (x7 + (1 : Int32)) fun v6 =>
  kc29 x1 x2 x3 x4 y5 v6 s
theorem V_Tr_claims_b83 (E : sv_E) (d : Nat) (kc29 : Int32 → Int32 → Int32 → Int32 → Int64 → Int32 → sv_S → Option (Int64 × sv_S)) (hc29 : ∀ (x1 : Int32) (x2 : Int32) (x3 : Int32) (x4 : Int32) (y5 : Int64) (x7 : Int32) (s : sv_S), sv_V E m_Tr_claims (d + 5) ss_l 29 [(0, sv_r E 151), (1, .int x1), (2, .int x2), (3, .int x3), (4, .int x4), (5, .long y5), (7, .int x7)] [] (ss_e s) (kc29 x1 x2 x3 x4 y5 x7 s)) (x1 : Int32) (x2 : Int32) (x3 : Int32) (x4 : Int32) (y5 : Int64) (x7 : Int32) (s : sv_S) : sv_V E m_Tr_claims (d + 5) ss_l 83 [(0, sv_r E 151), (1, .int x1), (2, .int x2), (3, .int x3), (4, .int x4), (5, .long y5), (7, .int x7)] [] (ss_e s) (F_Tr_claims_b83 kc29 x1 x2 x3 x4 y5 x7 s) := by
  unfold F_Tr_claims_b83
  refine ss_letr (fun v6 e_v6 => ?_)
  refine sv_iinc (pc := 83) (v := v6) (lv' := [(7, .int v6), (0, sv_r E 151), (1, .int x1), (2, .int x2), (3, .int x3), (4, .int x4), (5, .long y5)]) (sv_d k_Tr_claims 46 rfl) (n := 6) rfl (by rw [e_v6]; rfl) (by decide) rfl ?_
  refine sv_goto (pc := 86) (tgt := 29) (sv_d k_Tr_claims 47 rfl) (by decide) ?_
  exact sv_loc [1, 2, 3, 4, 5, 6, 0] rfl (hc29 x1 x2 x3 x4 y5 v6 s)
def F_Tr_claims_b29 : Nat → Int32 → Int32 → Int32 → Int32 → Int64 → Int32 → sv_S → Option (Int64 × sv_S)
  | 0 => fun _ _ _ _ _ _ _ => none
  | n + 1 => fun x1 x2 x3 x4 y5 x7 s =>
    if (s.1 151 10) ≤ x7 then
      some (y5, s)
    else
    if sv_ib x7 80 = true then
      ss_let (x2 - (s.1 156 x7.toNatClampNeg)) fun v3 =>
      (F_Tr_rateOfTruck x7 s).bind fun r4 =>
      if ss_ok2 s r4 5 = true then
        if (s.1 r4 3) = x1 then
          if x3 < v3 then
            F_Tr_claims_b83 (F_Tr_claims_b29  n) x1 x2 x3 x4 y5 x7 s
          else
          (F_Tr_claim x7 x4 v3 s).bind fun r7 =>
          ss_let (y5 + r7.1) fun v8 =>
          F_Tr_claims_b83 (F_Tr_claims_b29  n) x1 x2 x3 x4 v8 x7 r7.2
        else
        F_Tr_claims_b83 (F_Tr_claims_b29  n) x1 x2 x3 x4 y5 x7 s
      else none
    else none
theorem V_Tr_claims_b29 (E : sv_E) (d : Nat) : ∀ (n : Nat) (x1 : Int32) (x2 : Int32) (x3 : Int32) (x4 : Int32) (y5 : Int64) (x7 : Int32) (s : sv_S), sv_V E m_Tr_claims (d + 5) ss_l 29 [(0, sv_r E 151), (1, .int x1), (2, .int x2), (3, .int x3), (4, .int x4), (5, .long y5), (7, .int x7)] [] (ss_e s) (F_Tr_claims_b29 n x1 x2 x3 x4 y5 x7 s) := by
  intro n
  induction n with
  | zero => intro x1 x2 x3 x4 y5 x7 s; exact sv_none
  | succ n ih =>
    intro x1 x2 x3 x4 y5 x7 s
    unfold F_Tr_claims_b29
    refine sv_iload (pc := 29) 6 (sv_d k_Tr_claims 18 rfl) rfl ?_
    refine sv_aload_n (pc := 31) 0 (sv_d k_Tr_claims 19 rfl) rfl rfl ?_
    refine sv_getf (pc := 32) 10 (sv_d k_Tr_claims 20 rfl) cf9 (by decide) w361 kd151 (ss_lt (by decide)) rfl ?_
    refine sv_icmp_ge (pc := 35) (tgt := 89) (sv_d k_Tr_claims 21 rfl) (by decide) ?_ ?_
    · refine sv_lload (pc := 89) 5 (sv_d k_Tr_claims 48 rfl) rfl ?_
      exact sv_ret (pc := 91) (sv_d k_Tr_claims 49 rfl) ⟨_, rfl⟩ rfl
    · refine sv_iload_n (pc := 38) 2 (sv_d k_Tr_claims 22 rfl) rfl rfl ?_
      refine sv_aload_n (pc := 39) 0 (sv_d k_Tr_claims 23 rfl) rfl rfl ?_
      refine sv_getf (pc := 40) 6 (sv_d k_Tr_claims 24 rfl) cf9 (by decide) w357 kd151 (ss_lt (by decide)) (lr_151_6 E _) ?_
      refine sv_iload (pc := 43) 6 (sv_d k_Tr_claims 25 rfl) rfl ?_
      refine ss_iald (pc := 45) (n := 80) (sv_d k_Tr_claims 26 rfl) kd156 (ss_lt (by decide)) rfl ?_
      refine sv_isub (pc := 46) (sv_d k_Tr_claims 27 rfl) ?_
      refine ss_top (fun v3 e_v3 => ?_)
      refine sv_istore (pc := 47) (lv' := [(8, .int v3), (0, sv_r E 151), (1, .int x1), (2, .int x2), (3, .int x3), (4, .int x4), (5, .long y5), (7, .int x7)]) (sv_d k_Tr_claims 28 rfl) (by decide) rfl ?_
      refine sv_aload_n (pc := 49) 1 (sv_d k_Tr_claims 29 rfl) rfl rfl ?_
      refine sv_iload (pc := 50) 7 (sv_d k_Tr_claims 30 rfl) rfl ?_
      refine sv_callV (pc := 52) (ψ := (ss_pq E s)) (As := [.int x7]) (rest := []) (c := 151) (sv_d k_Tr_claims 31 rfl) g_Tr_rateOfTruck w976 in_Tr_rateOfTruck se_Tr_rateOfTruck cf9 kd151 (ss_lt (by decide)) rfl (Nat.le_of_ble_eq_true rfl) (V_Tr_rateOfTruck E (d + 3) x7 s) (Nat.le_of_ble_eq_true rfl) rfl (fun r4 => ?_)
      show sv_V E _ _ _ 55 _ [sv_r E r4] (ss_e s) _
      refine ss_gd2 (fun h_g5 o_g5 l_g5 => ?_)
      refine sv_getN (pc := 55) 3 (sv_d k_Tr_claims 32 rfl) cf5 (by decide) w274 h_g5 l_g5 rfl ?_
      refine sv_iload_n (pc := 58) 2 (sv_d k_Tr_claims 33 rfl) rfl rfl ?_
      refine sv_icmp_ne (pc := 59) (tgt := 83) (sv_d k_Tr_claims 34 rfl) (by decide) ?_ ?_
      · exact sv_loc [1, 2, 3, 4, 5, 6, 7] rfl (V_Tr_claims_b83 E d (F_Tr_claims_b29  n) ih x1 x2 x3 x4 y5 x7 s)
      · refine sv_iload (pc := 62) 0 (sv_d k_Tr_claims 35 rfl) rfl ?_
        refine sv_iload_n (pc := 64) 4 (sv_d k_Tr_claims 36 rfl) rfl rfl ?_
        refine sv_icmp_gt (pc := 65) (tgt := 83) (sv_d k_Tr_claims 37 rfl) (by decide) ?_ ?_
        · exact sv_loc [1, 2, 3, 4, 5, 6, 7] rfl (V_Tr_claims_b83 E d (F_Tr_claims_b29  n) ih x1 x2 x3 x4 y5 x7 s)
        · refine sv_lload (pc := 68) 6 (sv_d k_Tr_claims 38 rfl) rfl ?_
          refine sv_aload_n (pc := 70) 1 (sv_d k_Tr_claims 39 rfl) rfl rfl ?_
          refine sv_iload (pc := 71) 7 (sv_d k_Tr_claims 40 rfl) rfl ?_
          refine sv_iload (pc := 73) 5 (sv_d k_Tr_claims 41 rfl) rfl ?_
          refine sv_iload (pc := 75) 0 (sv_d k_Tr_claims 42 rfl) rfl ?_
          refine sv_callV (pc := 77) (ψ := ss_l) (As := [.int x7, .int x4, .int v3]) (rest := [.long y5]) (c := 151) (sv_d k_Tr_claims 43 rfl) g_Tr_claim w1041 in_Tr_claim se_Tr_claim cf9 kd151 (ss_lt (by decide)) rfl (Nat.le_of_ble_eq_true rfl) (V_Tr_claim E (d + 0) x7 x4 v3 s) (Nat.le_of_ble_eq_true rfl) rfl (fun r7 => ?_)
          show sv_V E _ _ _ 80 _ [.long r7.1, .long y5] (ss_e r7.2) _
          refine sv_ladd (pc := 80) (sv_d k_Tr_claims 44 rfl) ?_
          refine ss_topL (fun v8 e_v8 => ?_)
          refine sv_lstore (pc := 81) (lv' := [(5, .long v8), (8, .int v3), (0, sv_r E 151), (1, .int x1), (2, .int x2), (3, .int x3), (4, .int x4), (7, .int x7)]) (sv_d k_Tr_claims 45 rfl) (by decide) rfl ?_
          exact sv_loc [2, 3, 4, 5, 6, 0, 7] rfl (V_Tr_claims_b83 E d (F_Tr_claims_b29  n) ih x1 x2 x3 x4 v8 x7 r7.2)
def F_Tr_claims (x1 : Int32) (x2 : Int32) (s : sv_S) : Option (Int64 × sv_S) :=
  (F_Ls_value (-1 : Int32) x2 (4 : Int32) s).bind fun r1 =>
  (F_Ls_value (-1 : Int32) x2 (5 : Int32) r1.2).bind fun r2 =>
  F_Tr_claims_b29 ss_F x1 x2 r1.1 r2.1 (0 : Int64) (0 : Int32) r2.2
theorem V_Tr_claims (E : sv_E) (d : Nat) (x1 : Int32) (x2 : Int32) (s : sv_S) : sv_V E m_Tr_claims (d + 5) ss_l 0 (lv_args 0 [sv_r E 151, .int x1, .int x2]) [] (ss_e s) (F_Tr_claims x1 x2 s) := by
  show sv_V E m_Tr_claims (d + 5) ss_l 0 [(0, sv_r E 151), (1, .int x1), (2, .int x2)] [] (ss_e s) _
  unfold F_Tr_claims
  refine sv_aload_n (pc := 0) 0 (sv_d k_Tr_claims 0 rfl) rfl rfl ?_
  refine sv_getf (pc := 1) 1 (sv_d k_Tr_claims 1 rfl) cf9 (by decide) w352 kd151 (ss_lt (by decide)) (lr_151_1 E _) ?_
  refine sv_iconst (pc := 4) (v := (-1 : Int32)) (sv_d k_Tr_claims 2 rfl) (by decide) ?_
  refine sv_iload_n (pc := 5) 2 (sv_d k_Tr_claims 3 rfl) rfl rfl ?_
  refine sv_iconst (pc := 6) (v := (4 : Int32)) (sv_d k_Tr_claims 4 rfl) (by decide) ?_
  refine sv_callV (pc := 7) (ψ := ss_i) (As := [.int (-1 : Int32), .int x2, .int (4 : Int32)]) (rest := []) (c := 81) (sv_d k_Tr_claims 5 rfl) g_Ls_value w996 in_Ls_value se_Ls_value cf4 kd81 (ss_lt (by decide)) rfl (Nat.le_of_ble_eq_true rfl) (V_Ls_value E (d + 3) (-1 : Int32) x2 (4 : Int32) s) (Nat.le_of_ble_eq_true rfl) rfl (fun r1 => ?_)
  show sv_V E _ _ _ 10 _ [.int r1.1] (ss_e r1.2) _
  refine sv_istore_n (pc := 10) (lv' := [(3, .int r1.1), (0, sv_r E 151), (1, .int x1), (2, .int x2)]) (sv_d k_Tr_claims 6 rfl) rfl (by decide) rfl ?_
  refine sv_aload_n (pc := 11) 1 (sv_d k_Tr_claims 7 rfl) rfl rfl ?_
  refine sv_getf (pc := 12) 1 (sv_d k_Tr_claims 8 rfl) cf9 (by decide) w352 kd151 (ss_lt (by decide)) (lr_151_1 E _) ?_
  refine sv_iconst (pc := 15) (v := (-1 : Int32)) (sv_d k_Tr_claims 9 rfl) (by decide) ?_
  refine sv_iload_n (pc := 16) 3 (sv_d k_Tr_claims 10 rfl) rfl rfl ?_
  refine sv_iconst (pc := 17) (v := (5 : Int32)) (sv_d k_Tr_claims 11 rfl) (by decide) ?_
  refine sv_callV (pc := 18) (ψ := ss_i) (As := [.int (-1 : Int32), .int x2, .int (5 : Int32)]) (rest := []) (c := 81) (sv_d k_Tr_claims 12 rfl) g_Ls_value w996 in_Ls_value se_Ls_value cf4 kd81 (ss_lt (by decide)) rfl (Nat.le_of_ble_eq_true rfl) (V_Ls_value E (d + 3) (-1 : Int32) x2 (5 : Int32) r1.2) (Nat.le_of_ble_eq_true rfl) rfl (fun r2 => ?_)
  show sv_V E _ _ _ 21 _ [.int r2.1] (ss_e r2.2) _
  refine sv_istore (pc := 21) (lv' := [(4, .int r2.1), (3, .int r1.1), (0, sv_r E 151), (1, .int x1), (2, .int x2)]) (sv_d k_Tr_claims 13 rfl) (by decide) rfl ?_
  refine sv_lconst (pc := 23) (v := (0 : Int64)) (sv_d k_Tr_claims 14 rfl) (by decide) ?_
  refine sv_lstore (pc := 24) (lv' := [(5, .long (0 : Int64)), (4, .int r2.1), (3, .int r1.1), (0, sv_r E 151), (1, .int x1), (2, .int x2)]) (sv_d k_Tr_claims 15 rfl) (by decide) rfl ?_
  refine sv_iconst (pc := 26) (v := (0 : Int32)) (sv_d k_Tr_claims 16 rfl) (by decide) ?_
  refine sv_istore (pc := 27) (lv' := [(7, .int (0 : Int32)), (5, .long (0 : Int64)), (4, .int r2.1), (3, .int r1.1), (0, sv_r E 151), (1, .int x1), (2, .int x2)]) (sv_d k_Tr_claims 17 rfl) (by decide) rfl ?_
  exact sv_loc [4, 5, 6, 3, 2, 1, 0] rfl (V_Tr_claims_b29 E d ss_F x1 x2 r1.1 r2.1 (0 : Int64) (0 : Int32) r2.2)
/-! Tr_markFriends -/
abbrev m_Tr_markFriends : sv_M := (yX9_markFriends, cX9_markFriends, 10, (some .int))
def t_Tr_markFriends : List (Nat × Instr × Nat) := [(0, .aload_n 0, 1), (1, .iconst 0, 1), (2, .putfield 134, 3), (5, .iconst 0, 1), (6, .istore 7, 2), (8, .iload 7, 2), (10, .aload_n 0, 1), (11, .getfield 43, 3), (14, .if_icmp .ge 110, 3), (17, .aload_n 0, 1), (18, .iload 7, 2), (20, .invokevirtual 53, 3), (23, .astore 8, 2), (25, .aload 8, 2), (27, .getfield 77, 3), (30, .iload_n 1, 1), (31, .if_icmp .ne 37, 3), (34, .aload_n 0, 1), (35, .getfield 15, 3), (38, .iload 7, 2), (40, .iaload, 1), (41, .iload_n 2, 1), (42, .if_icmp .ne 26, 3), (45, .aload 8, 2), (47, .getfield 95, 3), (50, .iload_n 3, 1), (51, .if_icmp .ne 17, 3), (54, .aload 8, 2), (56, .getfield 98, 3), (59, .iload 4, 2), (61, .if_icmp .ne 7, 3), (64, .iconst 1, 1), (65, .goto 4, 3), (68, .iconst 0, 1), (69, .istore 9, 2), (71, .iload 9, 2), (73, .ifCond .eq 45, 3), (76, .aload_n 0, 1), (77, .getfield 24, 3), (80, .iload 7, 2), (82, .iaload, 1), (83, .iload 5, 2), (85, .if_icmp .lt 33, 3), (88, .aload_n 0, 1), (89, .getfield 24, 3), (92, .iload 7, 2), (94, .iaload, 1), (95, .iload 6, 2), (97, .if_icmp .gt 21, 3), (100, .aload_n 0, 1), (101, .getfield 32, 3), (104, .aload_n 0, 1), (105, .dup, 1), (106, .getfield 134, 3), (109, .dup_x1, 1), (110, .iconst 1, 1), (111, .iadd, 1), (112, .putfield 134, 3), (115, .iload 7, 2), (117, .iastore, 1), (118, .iinc 7 1, 3), (121, .goto (-113), 3), (124, .aload_n 0, 1), (125, .getfield 134, 3), (128, .ireturn, 1)]
theorem k_Tr_markFriends : sv_tk m_Tr_markFriends.2.1 t_Tr_markFriends := by decide +kernel
theorem g_Tr_markFriends : sv_G m_Tr_markFriends 6 := ⟨by decide +kernel, sv_in 1195 (by decide +kernel) rfl, sv_in 98 (by decide +kernel) rfl, ⟨by decide, by decide⟩, by decide +kernel, by decide⟩
theorem in_Tr_markFriends : Cond.instanceMethod m_Tr_markFriends.1 ∈ sv_T := sv_in 1193 (by decide +kernel) rfl
theorem se_Tr_markFriends : Cond.selects m_Tr_markFriends.1.cls m_Tr_markFriends.1 m_Tr_markFriends.1 ∈ sv_T := sv_in 1194 (by decide +kernel) rfl
def F_Tr_markFriends_b118 (kc8 : Int32 → Int32 → Int32 → Int32 → Int32 → Int32 → Int32 → sv_S → Option (Int32 × sv_S)) (x1 : Int32) (x2 : Int32) (x3 : Int32) (x4 : Int32) (x5 : Int32) (x6 : Int32) (x7 : Int32) (s : sv_S) : Option (Int32 × sv_S) :=
  ss_let (x7 + (1 : Int32)) fun v4 =>
  kc8 x1 x2 x3 x4 x5 x6 v4 s
theorem V_Tr_markFriends_b118 (E : sv_E) (d : Nat) (kc8 : Int32 → Int32 → Int32 → Int32 → Int32 → Int32 → Int32 → sv_S → Option (Int32 × sv_S)) (hc8 : ∀ (x1 : Int32) (x2 : Int32) (x3 : Int32) (x4 : Int32) (x5 : Int32) (x6 : Int32) (x7 : Int32) (s : sv_S), sv_V E m_Tr_markFriends (d + 2) ss_i 8 [(0, sv_r E 151), (1, .int x1), (2, .int x2), (3, .int x3), (4, .int x4), (5, .int x5), (6, .int x6), (7, .int x7)] [] (ss_e s) (kc8 x1 x2 x3 x4 x5 x6 x7 s)) (x1 : Int32) (x2 : Int32) (x3 : Int32) (x4 : Int32) (x5 : Int32) (x6 : Int32) (x7 : Int32) (s : sv_S) : sv_V E m_Tr_markFriends (d + 2) ss_i 118 [(0, sv_r E 151), (1, .int x1), (2, .int x2), (3, .int x3), (4, .int x4), (5, .int x5), (6, .int x6), (7, .int x7)] [] (ss_e s) (F_Tr_markFriends_b118 kc8 x1 x2 x3 x4 x5 x6 x7 s) := by
  unfold F_Tr_markFriends_b118
  refine ss_letr (fun v4 e_v4 => ?_)
  refine sv_iinc (pc := 118) (v := v4) (lv' := [(7, .int v4), (0, sv_r E 151), (1, .int x1), (2, .int x2), (3, .int x3), (4, .int x4), (5, .int x5), (6, .int x6)]) (sv_d k_Tr_markFriends 60 rfl) (n := 7) rfl (by rw [e_v4]; rfl) (by decide) rfl ?_
  refine sv_goto (pc := 121) (tgt := 8) (sv_d k_Tr_markFriends 61 rfl) (by decide) ?_
  exact sv_loc [1, 2, 3, 4, 5, 6, 7, 0] rfl (hc8 x1 x2 x3 x4 x5 x6 v4 s)
def F_Tr_markFriends_b69 (kc8 : Int32 → Int32 → Int32 → Int32 → Int32 → Int32 → Int32 → sv_S → Option (Int32 × sv_S)) (x1 : Int32) (x2 : Int32) (x3 : Int32) (x4 : Int32) (x5 : Int32) (x6 : Int32) (x7 : Int32) (t0 : Int32) (s : sv_S) : Option (Int32 × sv_S) :=
  if t0 = 0 then
    F_Tr_markFriends_b118 kc8 x1 x2 x3 x4 x5 x6 x7 s
  else
  if sv_ib x7 80 = true then
    if (s.1 156 x7.toNatClampNeg) < x5 then
      F_Tr_markFriends_b118 kc8 x1 x2 x3 x4 x5 x6 x7 s
    else
    if sv_ib x7 80 = true then
      if x6 < (s.1 156 x7.toNatClampNeg) then
        F_Tr_markFriends_b118 kc8 x1 x2 x3 x4 x5 x6 x7 s
      else
      ss_let (ss_setI s 151 9 ((s.1 151 9) + (1 : Int32))) fun s5 =>
      if sv_ib (s.1 151 9) 80 = true then
        ss_let (ss_setI s5 158 (s.1 151 9).toNatClampNeg x7) fun s6 =>
        F_Tr_markFriends_b118 kc8 x1 x2 x3 x4 x5 x6 x7 s6
      else none
    else none
  else none
theorem V_Tr_markFriends_b69 (E : sv_E) (d : Nat) (kc8 : Int32 → Int32 → Int32 → Int32 → Int32 → Int32 → Int32 → sv_S → Option (Int32 × sv_S)) (hc8 : ∀ (x1 : Int32) (x2 : Int32) (x3 : Int32) (x4 : Int32) (x5 : Int32) (x6 : Int32) (x7 : Int32) (s : sv_S), sv_V E m_Tr_markFriends (d + 2) ss_i 8 [(0, sv_r E 151), (1, .int x1), (2, .int x2), (3, .int x3), (4, .int x4), (5, .int x5), (6, .int x6), (7, .int x7)] [] (ss_e s) (kc8 x1 x2 x3 x4 x5 x6 x7 s)) (x1 : Int32) (x2 : Int32) (x3 : Int32) (x4 : Int32) (x5 : Int32) (x6 : Int32) (x7 : Int32) (t0 : Int32) (s : sv_S) : sv_V E m_Tr_markFriends (d + 2) ss_i 69 [(0, sv_r E 151), (1, .int x1), (2, .int x2), (3, .int x3), (4, .int x4), (5, .int x5), (6, .int x6), (7, .int x7)] [.int t0] (ss_e s) (F_Tr_markFriends_b69 kc8 x1 x2 x3 x4 x5 x6 x7 t0 s) := by
  unfold F_Tr_markFriends_b69
  refine sv_istore (pc := 69) (lv' := [(9, .int t0), (0, sv_r E 151), (1, .int x1), (2, .int x2), (3, .int x3), (4, .int x4), (5, .int x5), (6, .int x6), (7, .int x7)]) (sv_d k_Tr_markFriends 34 rfl) (by decide) rfl ?_
  refine sv_iload (pc := 71) 0 (sv_d k_Tr_markFriends 35 rfl) rfl ?_
  refine sv_if_eq (pc := 73) (tgt := 118) (sv_d k_Tr_markFriends 36 rfl) (by decide) ?_ ?_
  · exact sv_loc [1, 2, 3, 4, 5, 6, 7, 8] rfl (V_Tr_markFriends_b118 E d kc8 hc8 x1 x2 x3 x4 x5 x6 x7 s)
  · refine sv_aload_n (pc := 76) 1 (sv_d k_Tr_markFriends 37 rfl) rfl rfl ?_
    refine sv_getf (pc := 77) 6 (sv_d k_Tr_markFriends 38 rfl) cf9 (by decide) w357 kd151 (ss_lt (by decide)) (lr_151_6 E _) ?_
    refine sv_iload (pc := 80) 8 (sv_d k_Tr_markFriends 39 rfl) rfl ?_
    refine ss_iald (pc := 82) (n := 80) (sv_d k_Tr_markFriends 40 rfl) kd156 (ss_lt (by decide)) rfl ?_
    refine sv_iload (pc := 83) 6 (sv_d k_Tr_markFriends 41 rfl) rfl ?_
    refine sv_icmp_lt (pc := 85) (tgt := 118) (sv_d k_Tr_markFriends 42 rfl) (by decide) ?_ ?_
    · exact sv_loc [1, 2, 3, 4, 5, 6, 7, 8] rfl (V_Tr_markFriends_b118 E d kc8 hc8 x1 x2 x3 x4 x5 x6 x7 s)
    · refine sv_aload_n (pc := 88) 1 (sv_d k_Tr_markFriends 43 rfl) rfl rfl ?_
      refine sv_getf (pc := 89) 6 (sv_d k_Tr_markFriends 44 rfl) cf9 (by decide) w357 kd151 (ss_lt (by decide)) (lr_151_6 E _) ?_
      refine sv_iload (pc := 92) 8 (sv_d k_Tr_markFriends 45 rfl) rfl ?_
      refine ss_iald (pc := 94) (n := 80) (sv_d k_Tr_markFriends 46 rfl) kd156 (ss_lt (by decide)) rfl ?_
      refine sv_iload (pc := 95) 7 (sv_d k_Tr_markFriends 47 rfl) rfl ?_
      refine sv_icmp_gt (pc := 97) (tgt := 118) (sv_d k_Tr_markFriends 48 rfl) (by decide) ?_ ?_
      · exact sv_loc [1, 2, 3, 4, 5, 6, 7, 8] rfl (V_Tr_markFriends_b118 E d kc8 hc8 x1 x2 x3 x4 x5 x6 x7 s)
      · refine sv_aload_n (pc := 100) 1 (sv_d k_Tr_markFriends 49 rfl) rfl rfl ?_
        refine sv_getf (pc := 101) 8 (sv_d k_Tr_markFriends 50 rfl) cf9 (by decide) w359 kd151 (ss_lt (by decide)) (lr_151_8 E _) ?_
        refine sv_aload_n (pc := 104) 1 (sv_d k_Tr_markFriends 51 rfl) rfl rfl ?_
        refine sv_dup (pc := 105) (sv_d k_Tr_markFriends 52 rfl) rfl ?_
        refine sv_getf (pc := 106) 9 (sv_d k_Tr_markFriends 53 rfl) cf9 (by decide) w360 kd151 (ss_lt (by decide)) rfl ?_
        refine sv_dup_x1 (pc := 109) (sv_d k_Tr_markFriends 54 rfl) rfl rfl ?_
        refine sv_iconst (pc := 110) (v := (1 : Int32)) (sv_d k_Tr_markFriends 55 rfl) (by decide) ?_
        refine sv_iadd (pc := 111) (sv_d k_Tr_markFriends 56 rfl) ?_
        refine ss_putI (pc := 112) 9 (sv_d k_Tr_markFriends 57 rfl) cf9 (by decide) rfl w360 kd151 (ss_lt (by decide)) rfl rfl (fun _ => rfl) (ss_lets (fun s5 e_s5 => ?_))
        refine sv_iload (pc := 115) 8 (sv_d k_Tr_markFriends 58 rfl) rfl ?_
        refine ss_iast (pc := 117) (n := 80) (sv_d k_Tr_markFriends 59 rfl) kd158 (by decide) (ss_lt (by decide)) rfl (ss_lets (fun s6 e_s6 => ?_))
        exact sv_loc [1, 2, 3, 4, 5, 6, 7, 8] rfl (V_Tr_markFriends_b118 E d kc8 hc8 x1 x2 x3 x4 x5 x6 x7 s6)
def F_Tr_markFriends_b68 (kc8 : Int32 → Int32 → Int32 → Int32 → Int32 → Int32 → Int32 → sv_S → Option (Int32 × sv_S)) (x1 : Int32) (x2 : Int32) (x3 : Int32) (x4 : Int32) (x5 : Int32) (x6 : Int32) (x7 : Int32) (s : sv_S) : Option (Int32 × sv_S) :=
  F_Tr_markFriends_b69 kc8 x1 x2 x3 x4 x5 x6 x7 (0 : Int32) s
theorem V_Tr_markFriends_b68 (E : sv_E) (d : Nat) (kc8 : Int32 → Int32 → Int32 → Int32 → Int32 → Int32 → Int32 → sv_S → Option (Int32 × sv_S)) (hc8 : ∀ (x1 : Int32) (x2 : Int32) (x3 : Int32) (x4 : Int32) (x5 : Int32) (x6 : Int32) (x7 : Int32) (s : sv_S), sv_V E m_Tr_markFriends (d + 2) ss_i 8 [(0, sv_r E 151), (1, .int x1), (2, .int x2), (3, .int x3), (4, .int x4), (5, .int x5), (6, .int x6), (7, .int x7)] [] (ss_e s) (kc8 x1 x2 x3 x4 x5 x6 x7 s)) (x1 : Int32) (x2 : Int32) (x3 : Int32) (x4 : Int32) (x5 : Int32) (x6 : Int32) (x7 : Int32) (s : sv_S) : sv_V E m_Tr_markFriends (d + 2) ss_i 68 [(0, sv_r E 151), (1, .int x1), (2, .int x2), (3, .int x3), (4, .int x4), (5, .int x5), (6, .int x6), (7, .int x7)] [] (ss_e s) (F_Tr_markFriends_b68 kc8 x1 x2 x3 x4 x5 x6 x7 s) := by
  unfold F_Tr_markFriends_b68
  refine sv_iconst (pc := 68) (v := (0 : Int32)) (sv_d k_Tr_markFriends 33 rfl) (by decide) ?_
  exact sv_loc [0, 1, 2, 3, 4, 5, 6, 7] rfl (V_Tr_markFriends_b69 E d kc8 hc8 x1 x2 x3 x4 x5 x6 x7 (0 : Int32) s)
def F_Tr_markFriends_b8 : Nat → Int32 → Int32 → Int32 → Int32 → Int32 → Int32 → Int32 → sv_S → Option (Int32 × sv_S)
  | 0 => fun _ _ _ _ _ _ _ _ => none
  | n + 1 => fun x1 x2 x3 x4 x5 x6 x7 s =>
    if (s.1 151 10) ≤ x7 then
      some (s.1 151 9, s)
    else
    (F_Tr_rateOfTruck x7 s).bind fun r2 =>
    if ss_ok2 s r2 5 = true then
      if (s.1 r2 2) = x1 then
        if sv_ib x7 80 = true then
          if (s.1 153 x7.toNatClampNeg) = x2 then
            if (s.1 r2 3) = x3 then
              if (s.1 r2 4) = x4 then
                F_Tr_markFriends_b69 (F_Tr_markFriends_b8  n) x1 x2 x3 x4 x5 x6 x7 (1 : Int32) s
              else
              F_Tr_markFriends_b68 (F_Tr_markFriends_b8  n) x1 x2 x3 x4 x5 x6 x7 s
            else
            F_Tr_markFriends_b68 (F_Tr_markFriends_b8  n) x1 x2 x3 x4 x5 x6 x7 s
          else
          F_Tr_markFriends_b68 (F_Tr_markFriends_b8  n) x1 x2 x3 x4 x5 x6 x7 s
        else none
      else
      F_Tr_markFriends_b68 (F_Tr_markFriends_b8  n) x1 x2 x3 x4 x5 x6 x7 s
    else none
theorem V_Tr_markFriends_b8 (E : sv_E) (d : Nat) : ∀ (n : Nat) (x1 : Int32) (x2 : Int32) (x3 : Int32) (x4 : Int32) (x5 : Int32) (x6 : Int32) (x7 : Int32) (s : sv_S), sv_V E m_Tr_markFriends (d + 2) ss_i 8 [(0, sv_r E 151), (1, .int x1), (2, .int x2), (3, .int x3), (4, .int x4), (5, .int x5), (6, .int x6), (7, .int x7)] [] (ss_e s) (F_Tr_markFriends_b8 n x1 x2 x3 x4 x5 x6 x7 s) := by
  intro n
  induction n with
  | zero => intro x1 x2 x3 x4 x5 x6 x7 s; exact sv_none
  | succ n ih =>
    intro x1 x2 x3 x4 x5 x6 x7 s
    unfold F_Tr_markFriends_b8
    refine sv_iload (pc := 8) 7 (sv_d k_Tr_markFriends 5 rfl) rfl ?_
    refine sv_aload_n (pc := 10) 0 (sv_d k_Tr_markFriends 6 rfl) rfl rfl ?_
    refine sv_getf (pc := 11) 10 (sv_d k_Tr_markFriends 7 rfl) cf9 (by decide) w361 kd151 (ss_lt (by decide)) rfl ?_
    refine sv_icmp_ge (pc := 14) (tgt := 124) (sv_d k_Tr_markFriends 8 rfl) (by decide) ?_ ?_
    · refine sv_aload_n (pc := 124) 0 (sv_d k_Tr_markFriends 62 rfl) rfl rfl ?_
      refine sv_getf (pc := 125) 9 (sv_d k_Tr_markFriends 63 rfl) cf9 (by decide) w360 kd151 (ss_lt (by decide)) rfl ?_
      exact sv_ret (pc := 128) (sv_d k_Tr_markFriends 64 rfl) ⟨_, rfl, rfl⟩ rfl
    · refine sv_aload_n (pc := 17) 0 (sv_d k_Tr_markFriends 9 rfl) rfl rfl ?_
      refine sv_iload (pc := 18) 7 (sv_d k_Tr_markFriends 10 rfl) rfl ?_
      refine sv_callV (pc := 20) (ψ := (ss_pq E s)) (As := [.int x7]) (rest := []) (c := 151) (sv_d k_Tr_markFriends 11 rfl) g_Tr_rateOfTruck w976 in_Tr_rateOfTruck se_Tr_rateOfTruck cf9 kd151 (ss_lt (by decide)) rfl (Nat.le_of_ble_eq_true rfl) (V_Tr_rateOfTruck E (d + 0) x7 s) (Nat.le_of_ble_eq_true rfl) rfl (fun r2 => ?_)
      show sv_V E _ _ _ 23 _ [sv_r E r2] (ss_e s) _
      refine ss_gd2 (fun h_g3 o_g3 l_g3 => ?_)
      refine sv_astore (pc := 23) (lv' := [(8, sv_r E r2), (0, sv_r E 151), (1, .int x1), (2, .int x2), (3, .int x3), (4, .int x4), (5, .int x5), (6, .int x6), (7, .int x7)]) (sv_d k_Tr_markFriends 12 rfl) (by decide) rfl ?_
      refine sv_aload (pc := 25) 0 (sv_d k_Tr_markFriends 13 rfl) rfl ?_
      refine sv_getN (pc := 27) 2 (sv_d k_Tr_markFriends 14 rfl) cf5 (by decide) w268 h_g3 l_g3 rfl ?_
      refine sv_iload_n (pc := 30) 2 (sv_d k_Tr_markFriends 15 rfl) rfl rfl ?_
      refine sv_icmp_ne (pc := 31) (tgt := 68) (sv_d k_Tr_markFriends 16 rfl) (by decide) ?_ ?_
      · exact sv_loc [1, 2, 3, 4, 5, 6, 7, 8] rfl (V_Tr_markFriends_b68 E d (F_Tr_markFriends_b8  n) ih x1 x2 x3 x4 x5 x6 x7 s)
      · refine sv_aload_n (pc := 34) 1 (sv_d k_Tr_markFriends 17 rfl) rfl rfl ?_
        refine sv_getf (pc := 35) 3 (sv_d k_Tr_markFriends 18 rfl) cf9 (by decide) w354 kd151 (ss_lt (by decide)) (lr_151_3 E _) ?_
        refine sv_iload (pc := 38) 8 (sv_d k_Tr_markFriends 19 rfl) rfl ?_
        refine ss_iald (pc := 40) (n := 80) (sv_d k_Tr_markFriends 20 rfl) kd153 (ss_lt (by decide)) rfl ?_
        refine sv_iload_n (pc := 41) 3 (sv_d k_Tr_markFriends 21 rfl) rfl rfl ?_
        refine sv_icmp_ne (pc := 42) (tgt := 68) (sv_d k_Tr_markFriends 22 rfl) (by decide) ?_ ?_
        · exact sv_loc [1, 2, 3, 4, 5, 6, 7, 8] rfl (V_Tr_markFriends_b68 E d (F_Tr_markFriends_b8  n) ih x1 x2 x3 x4 x5 x6 x7 s)
        · refine sv_aload (pc := 45) 0 (sv_d k_Tr_markFriends 23 rfl) rfl ?_
          refine sv_getN (pc := 47) 3 (sv_d k_Tr_markFriends 24 rfl) cf5 (by decide) w274 h_g3 l_g3 rfl ?_
          refine sv_iload_n (pc := 50) 4 (sv_d k_Tr_markFriends 25 rfl) rfl rfl ?_
          refine sv_icmp_ne (pc := 51) (tgt := 68) (sv_d k_Tr_markFriends 26 rfl) (by decide) ?_ ?_
          · exact sv_loc [1, 2, 3, 4, 5, 6, 7, 8] rfl (V_Tr_markFriends_b68 E d (F_Tr_markFriends_b8  n) ih x1 x2 x3 x4 x5 x6 x7 s)
          · refine sv_aload (pc := 54) 0 (sv_d k_Tr_markFriends 27 rfl) rfl ?_
            refine sv_getN (pc := 56) 4 (sv_d k_Tr_markFriends 28 rfl) cf5 (by decide) w279 h_g3 l_g3 rfl ?_
            refine sv_iload (pc := 59) 5 (sv_d k_Tr_markFriends 29 rfl) rfl ?_
            refine sv_icmp_ne (pc := 61) (tgt := 68) (sv_d k_Tr_markFriends 30 rfl) (by decide) ?_ ?_
            · exact sv_loc [1, 2, 3, 4, 5, 6, 7, 8] rfl (V_Tr_markFriends_b68 E d (F_Tr_markFriends_b8  n) ih x1 x2 x3 x4 x5 x6 x7 s)
            · refine sv_iconst (pc := 64) (v := (1 : Int32)) (sv_d k_Tr_markFriends 31 rfl) (by decide) ?_
              refine sv_goto (pc := 65) (tgt := 69) (sv_d k_Tr_markFriends 32 rfl) (by decide) ?_
              exact sv_loc [1, 2, 3, 4, 5, 6, 7, 8] rfl (V_Tr_markFriends_b69 E d (F_Tr_markFriends_b8  n) ih x1 x2 x3 x4 x5 x6 x7 (1 : Int32) s)
def F_Tr_markFriends (x1 : Int32) (x2 : Int32) (x3 : Int32) (x4 : Int32) (x5 : Int32) (x6 : Int32) (s : sv_S) : Option (Int32 × sv_S) :=
  ss_let (ss_setI s 151 9 (0 : Int32)) fun s1 =>
  F_Tr_markFriends_b8 ss_F x1 x2 x3 x4 x5 x6 (0 : Int32) s1
theorem V_Tr_markFriends (E : sv_E) (d : Nat) (x1 : Int32) (x2 : Int32) (x3 : Int32) (x4 : Int32) (x5 : Int32) (x6 : Int32) (s : sv_S) : sv_V E m_Tr_markFriends (d + 2) ss_i 0 (lv_args 0 [sv_r E 151, .int x1, .int x2, .int x3, .int x4, .int x5, .int x6]) [] (ss_e s) (F_Tr_markFriends x1 x2 x3 x4 x5 x6 s) := by
  show sv_V E m_Tr_markFriends (d + 2) ss_i 0 [(0, sv_r E 151), (1, .int x1), (2, .int x2), (3, .int x3), (4, .int x4), (5, .int x5), (6, .int x6)] [] (ss_e s) _
  unfold F_Tr_markFriends
  refine sv_aload_n (pc := 0) 0 (sv_d k_Tr_markFriends 0 rfl) rfl rfl ?_
  refine sv_iconst (pc := 1) (v := (0 : Int32)) (sv_d k_Tr_markFriends 1 rfl) (by decide) ?_
  refine ss_putI (pc := 2) 9 (sv_d k_Tr_markFriends 2 rfl) cf9 (by decide) rfl w360 kd151 (ss_lt (by decide)) rfl rfl (fun _ => rfl) (ss_lets (fun s1 e_s1 => ?_))
  refine sv_iconst (pc := 5) (v := (0 : Int32)) (sv_d k_Tr_markFriends 3 rfl) (by decide) ?_
  refine sv_istore (pc := 6) (lv' := [(7, .int (0 : Int32)), (0, sv_r E 151), (1, .int x1), (2, .int x2), (3, .int x3), (4, .int x4), (5, .int x5), (6, .int x6)]) (sv_d k_Tr_markFriends 4 rfl) (by decide) rfl ?_
  exact sv_loc [1, 2, 3, 4, 5, 6, 7, 0] rfl (V_Tr_markFriends_b8 E d ss_F x1 x2 x3 x4 x5 x6 (0 : Int32) s1)
/-! Tr_paidPerTon -/
abbrev m_Tr_paidPerTon : sv_M := (yX9_paidPerTon, cX9_paidPerTon, 2, (some .int))
def t_Tr_paidPerTon : List (Nat × Instr × Nat) := [(0, .aload_n 0, 1), (1, .getfield 18, 3), (4, .iload_n 1, 1), (5, .iaload, 1), (6, .iconst 1, 1), (7, .if_icmp .ge 7, 3), (10, .iconst 0, 1), (11, .goto 16, 3), (14, .aload_n 0, 1), (15, .getfield 21, 3), (18, .iload_n 1, 1), (19, .iaload, 1), (20, .aload_n 0, 1), (21, .getfield 18, 3), (24, .iload_n 1, 1), (25, .iaload, 1), (26, .idiv, 1), (27, .ireturn, 1)]
theorem k_Tr_paidPerTon : sv_tk m_Tr_paidPerTon.2.1 t_Tr_paidPerTon := by decide +kernel
theorem g_Tr_paidPerTon : sv_G m_Tr_paidPerTon 1 := ⟨by decide +kernel, sv_in 1207 (by decide +kernel) rfl, sv_in 98 (by decide +kernel) rfl, ⟨by decide, by decide⟩, by decide +kernel, by decide⟩
theorem in_Tr_paidPerTon : Cond.instanceMethod m_Tr_paidPerTon.1 ∈ sv_T := sv_in 1206 (by decide +kernel) rfl
theorem se_Tr_paidPerTon : Cond.selects m_Tr_paidPerTon.1.cls m_Tr_paidPerTon.1 m_Tr_paidPerTon.1 ∈ sv_T := sv_in 30 (by decide +kernel) rfl
def F_Tr_paidPerTon (x1 : Int32) (s : sv_S) : Option (Int32) :=
  if sv_ib x1 80 = true then
    if (1 : Int32) ≤ (s.1 154 x1.toNatClampNeg) then
      if sv_ib x1 80 = true then
        if sv_ib x1 80 = true then
          if s.1 154 x1.toNatClampNeg = 0 then none else
          some ((s.1 155 x1.toNatClampNeg) / (s.1 154 x1.toNatClampNeg))
        else none
      else none
    else
    some (0 : Int32)
  else none
theorem V_Tr_paidPerTon (E : sv_E) (d : Nat) (x1 : Int32) (s : sv_S) : sv_V E m_Tr_paidPerTon (d + 0) (ss_pi s) 0 (lv_args 0 [sv_r E 151, .int x1]) [] (ss_e s) (F_Tr_paidPerTon x1 s) := by
  show sv_V E m_Tr_paidPerTon (d + 0) (ss_pi s) 0 [(0, sv_r E 151), (1, .int x1)] [] (ss_e s) _
  unfold F_Tr_paidPerTon
  refine sv_aload_n (pc := 0) 0 (sv_d k_Tr_paidPerTon 0 rfl) rfl rfl ?_
  refine sv_getf (pc := 1) 4 (sv_d k_Tr_paidPerTon 1 rfl) cf9 (by decide) w355 kd151 (ss_lt (by decide)) (lr_151_4 E _) ?_
  refine sv_iload_n (pc := 4) 1 (sv_d k_Tr_paidPerTon 2 rfl) rfl rfl ?_
  refine ss_iald (pc := 5) (n := 80) (sv_d k_Tr_paidPerTon 3 rfl) kd154 (ss_lt (by decide)) rfl ?_
  refine sv_iconst (pc := 6) (v := (1 : Int32)) (sv_d k_Tr_paidPerTon 4 rfl) (by decide) ?_
  refine sv_icmp_ge (pc := 7) (tgt := 14) (sv_d k_Tr_paidPerTon 5 rfl) (by decide) ?_ ?_
  · refine sv_aload_n (pc := 14) 0 (sv_d k_Tr_paidPerTon 8 rfl) rfl rfl ?_
    refine sv_getf (pc := 15) 5 (sv_d k_Tr_paidPerTon 9 rfl) cf9 (by decide) w356 kd151 (ss_lt (by decide)) (lr_151_5 E _) ?_
    refine sv_iload_n (pc := 18) 1 (sv_d k_Tr_paidPerTon 10 rfl) rfl rfl ?_
    refine ss_iald (pc := 19) (n := 80) (sv_d k_Tr_paidPerTon 11 rfl) kd155 (ss_lt (by decide)) rfl ?_
    refine sv_aload_n (pc := 20) 0 (sv_d k_Tr_paidPerTon 12 rfl) rfl rfl ?_
    refine sv_getf (pc := 21) 4 (sv_d k_Tr_paidPerTon 13 rfl) cf9 (by decide) w355 kd151 (ss_lt (by decide)) (lr_151_4 E _) ?_
    refine sv_iload_n (pc := 24) 1 (sv_d k_Tr_paidPerTon 14 rfl) rfl rfl ?_
    refine ss_iald (pc := 25) (n := 80) (sv_d k_Tr_paidPerTon 15 rfl) kd154 (ss_lt (by decide)) rfl ?_
    refine sv_idiv (pc := 26) (sv_d k_Tr_paidPerTon 16 rfl) ?_
    exact sv_ret (pc := 27) (sv_d k_Tr_paidPerTon 17 rfl) ⟨_, rfl, rfl⟩ rfl
  · refine sv_iconst (pc := 10) (v := (0 : Int32)) (sv_d k_Tr_paidPerTon 6 rfl) (by decide) ?_
    refine sv_goto (pc := 11) (tgt := 27) (sv_d k_Tr_paidPerTon 7 rfl) (by decide) ?_
    exact sv_ret (pc := 27) (sv_d k_Tr_paidPerTon 17 rfl) ⟨_, rfl, rfl⟩ rfl
/-! Tr_greatestPaid -/
abbrev m_Tr_greatestPaid : sv_M := (yX9_greatestPaid, cX9_greatestPaid, 3, (some .int))
def t_Tr_greatestPaid : List (Nat × Instr × Nat) := [(0, .iconst 0, 1), (1, .istore_n 1, 1), (2, .iconst 0, 1), (3, .istore_n 2, 1), (4, .iload_n 2, 1), (5, .aload_n 0, 1), (6, .getfield 134, 3), (9, .if_icmp .ge 24, 3), (12, .iload_n 1, 1), (13, .aload_n 0, 1), (14, .aload_n 0, 1), (15, .getfield 32, 3), (18, .iload_n 2, 1), (19, .iaload, 1), (20, .invokevirtual 141, 3), (23, .invokestatic 65, 3), (26, .istore_n 1, 1), (27, .iinc 2 1, 3), (30, .goto (-26), 3), (33, .iload_n 1, 1), (34, .ireturn, 1)]
theorem k_Tr_greatestPaid : sv_tk m_Tr_greatestPaid.2.1 t_Tr_greatestPaid := by decide +kernel
theorem g_Tr_greatestPaid : sv_G m_Tr_greatestPaid 0 := ⟨by decide +kernel, sv_in 1203 (by decide +kernel) rfl, sv_in 98 (by decide +kernel) rfl, ⟨by decide, by decide⟩, by decide +kernel, by decide⟩
theorem in_Tr_greatestPaid : Cond.instanceMethod m_Tr_greatestPaid.1 ∈ sv_T := sv_in 1201 (by decide +kernel) rfl
theorem se_Tr_greatestPaid : Cond.selects m_Tr_greatestPaid.1.cls m_Tr_greatestPaid.1 m_Tr_greatestPaid.1 ∈ sv_T := sv_in 1202 (by decide +kernel) rfl
def F_Tr_greatestPaid_b4 (s : sv_S) : Nat → Int32 → Int32 → Option (Int32)
  | 0 => fun _ _ => none
  | n + 1 => fun x1 x2 =>
    if (s.1 151 9) ≤ x2 then
      some x1
    else
    if sv_ib x2 80 = true then
      (F_Tr_paidPerTon (s.1 158 x2.toNatClampNeg) s).bind fun r1 =>
      (F_JM_max x1 r1 s).bind fun r2 =>
      ss_let (x2 + (1 : Int32)) fun v3 =>
      F_Tr_greatestPaid_b4 s n r2 v3
    else none
theorem V_Tr_greatestPaid_b4 (E : sv_E) (d : Nat) (s : sv_S) : ∀ (n : Nat) (x1 : Int32) (x2 : Int32), sv_V E m_Tr_greatestPaid (d + 1) (ss_pi s) 4 [(0, sv_r E 151), (1, .int x1), (2, .int x2)] [] (ss_e s) (F_Tr_greatestPaid_b4 s n x1 x2) := by
  intro n
  induction n with
  | zero => intro x1 x2; exact sv_none
  | succ n ih =>
    intro x1 x2
    unfold F_Tr_greatestPaid_b4
    refine sv_iload_n (pc := 4) 2 (sv_d k_Tr_greatestPaid 4 rfl) rfl rfl ?_
    refine sv_aload_n (pc := 5) 0 (sv_d k_Tr_greatestPaid 5 rfl) rfl rfl ?_
    refine sv_getf (pc := 6) 9 (sv_d k_Tr_greatestPaid 6 rfl) cf9 (by decide) w360 kd151 (ss_lt (by decide)) rfl ?_
    refine sv_icmp_ge (pc := 9) (tgt := 33) (sv_d k_Tr_greatestPaid 7 rfl) (by decide) ?_ ?_
    · refine sv_iload_n (pc := 33) 1 (sv_d k_Tr_greatestPaid 19 rfl) rfl rfl ?_
      exact sv_ret (pc := 34) (sv_d k_Tr_greatestPaid 20 rfl) ⟨_, rfl, rfl⟩ rfl
    · refine sv_iload_n (pc := 12) 1 (sv_d k_Tr_greatestPaid 8 rfl) rfl rfl ?_
      refine sv_aload_n (pc := 13) 0 (sv_d k_Tr_greatestPaid 9 rfl) rfl rfl ?_
      refine sv_aload_n (pc := 14) 0 (sv_d k_Tr_greatestPaid 10 rfl) rfl rfl ?_
      refine sv_getf (pc := 15) 8 (sv_d k_Tr_greatestPaid 11 rfl) cf9 (by decide) w359 kd151 (ss_lt (by decide)) (lr_151_8 E _) ?_
      refine sv_iload_n (pc := 18) 2 (sv_d k_Tr_greatestPaid 12 rfl) rfl rfl ?_
      refine ss_iald (pc := 19) (n := 80) (sv_d k_Tr_greatestPaid 13 rfl) kd158 (ss_lt (by decide)) rfl ?_
      refine sv_callV (pc := 20) (ψ := (ss_pi s)) (As := [.int (s.1 158 x2.toNatClampNeg)]) (rest := [.int x1]) (c := 151) (sv_d k_Tr_greatestPaid 14 rfl) g_Tr_paidPerTon w1204 in_Tr_paidPerTon se_Tr_paidPerTon cf9 kd151 (ss_lt (by decide)) rfl (Nat.le_of_ble_eq_true rfl) (V_Tr_paidPerTon E (d + 0) (s.1 158 x2.toNatClampNeg) s) (Nat.le_of_ble_eq_true rfl) rfl (fun r1 => ?_)
      show sv_V E _ _ _ 23 _ [.int r1, .int x1] (ss_e s) _
      refine sv_callS (pc := 23) (ψ := (ss_pi s)) (As := [.int x1, .int r1]) (rest := []) (sv_d k_Tr_greatestPaid 15 rfl) g_JM_max w995 st_JM_max rfl (Nat.le_of_ble_eq_true rfl) (V_JM_max E (d + 0) x1 r1 s) (Nat.le_of_ble_eq_true rfl) rfl (fun r2 => ?_)
      show sv_V E _ _ _ 26 _ [.int r2] (ss_e s) _
      refine sv_istore_n (pc := 26) (lv' := [(1, .int r2), (0, sv_r E 151), (2, .int x2)]) (sv_d k_Tr_greatestPaid 16 rfl) rfl (by decide) rfl ?_
      refine ss_letr (fun v3 e_v3 => ?_)
      refine sv_iinc (pc := 27) (v := v3) (lv' := [(2, .int v3), (1, .int r2), (0, sv_r E 151)]) (sv_d k_Tr_greatestPaid 17 rfl) (n := 2) rfl (by rw [e_v3]; rfl) (by decide) rfl ?_
      refine sv_goto (pc := 30) (tgt := 4) (sv_d k_Tr_greatestPaid 18 rfl) (by decide) ?_
      exact sv_loc [2, 1, 0] rfl (ih r2 v3)
def F_Tr_greatestPaid (s : sv_S) : Option (Int32) :=
  F_Tr_greatestPaid_b4 s ss_F (0 : Int32) (0 : Int32)
theorem V_Tr_greatestPaid (E : sv_E) (d : Nat) (s : sv_S) : sv_V E m_Tr_greatestPaid (d + 1) (ss_pi s) 0 (lv_args 0 [sv_r E 151]) [] (ss_e s) (F_Tr_greatestPaid s) := by
  show sv_V E m_Tr_greatestPaid (d + 1) (ss_pi s) 0 [(0, sv_r E 151)] [] (ss_e s) _
  unfold F_Tr_greatestPaid
  refine sv_iconst (pc := 0) (v := (0 : Int32)) (sv_d k_Tr_greatestPaid 0 rfl) (by decide) ?_
  refine sv_istore_n (pc := 1) (lv' := [(1, .int (0 : Int32)), (0, sv_r E 151)]) (sv_d k_Tr_greatestPaid 1 rfl) rfl (by decide) rfl ?_
  refine sv_iconst (pc := 2) (v := (0 : Int32)) (sv_d k_Tr_greatestPaid 2 rfl) (by decide) ?_
  refine sv_istore_n (pc := 3) (lv' := [(2, .int (0 : Int32)), (1, .int (0 : Int32)), (0, sv_r E 151)]) (sv_d k_Tr_greatestPaid 3 rfl) rfl (by decide) rfl ?_
  exact sv_loc [2, 1, 0] rfl (V_Tr_greatestPaid_b4 E d s ss_F (0 : Int32) (0 : Int32))
/-! Tr_leastPaid -/
abbrev m_Tr_leastPaid : sv_M := (yX9_leastPaid, cX9_leastPaid, 3, (some .int))
def t_Tr_leastPaid : List (Nat × Instr × Nat) := [(0, .aload_n 0, 1), (1, .invokevirtual 137, 3), (4, .istore_n 1, 1), (5, .iconst 0, 1), (6, .istore_n 2, 1), (7, .iload_n 2, 1), (8, .aload_n 0, 1), (9, .getfield 134, 3), (12, .if_icmp .ge 24, 3), (15, .iload_n 1, 1), (16, .aload_n 0, 1), (17, .aload_n 0, 1), (18, .getfield 32, 3), (21, .iload_n 2, 1), (22, .iaload, 1), (23, .invokevirtual 141, 3), (26, .invokestatic 144, 3), (29, .istore_n 1, 1), (30, .iinc 2 1, 3), (33, .goto (-26), 3), (36, .iload_n 1, 1), (37, .ireturn, 1)]
theorem k_Tr_leastPaid : sv_tk m_Tr_leastPaid.2.1 t_Tr_leastPaid := by decide +kernel
theorem g_Tr_leastPaid : sv_G m_Tr_leastPaid 0 := ⟨by decide +kernel, sv_in 1199 (by decide +kernel) rfl, sv_in 98 (by decide +kernel) rfl, ⟨by decide, by decide⟩, by decide +kernel, by decide⟩
theorem in_Tr_leastPaid : Cond.instanceMethod m_Tr_leastPaid.1 ∈ sv_T := sv_in 1197 (by decide +kernel) rfl
theorem se_Tr_leastPaid : Cond.selects m_Tr_leastPaid.1.cls m_Tr_leastPaid.1 m_Tr_leastPaid.1 ∈ sv_T := sv_in 1198 (by decide +kernel) rfl
def F_Tr_leastPaid_b7 (s : sv_S) : Nat → Int32 → Int32 → Option (Int32)
  | 0 => fun _ _ => none
  | n + 1 => fun x1 x2 =>
    if (s.1 151 9) ≤ x2 then
      some x1
    else
    if sv_ib x2 80 = true then
      (F_Tr_paidPerTon (s.1 158 x2.toNatClampNeg) s).bind fun r2 =>
      (F_JM_min x1 r2 s).bind fun r3 =>
      ss_let (x2 + (1 : Int32)) fun v4 =>
      F_Tr_leastPaid_b7 s n r3 v4
    else none
theorem V_Tr_leastPaid_b7 (E : sv_E) (d : Nat) (s : sv_S) : ∀ (n : Nat) (x1 : Int32) (x2 : Int32), sv_V E m_Tr_leastPaid (d + 2) (ss_pi s) 7 [(0, sv_r E 151), (1, .int x1), (2, .int x2)] [] (ss_e s) (F_Tr_leastPaid_b7 s n x1 x2) := by
  intro n
  induction n with
  | zero => intro x1 x2; exact sv_none
  | succ n ih =>
    intro x1 x2
    unfold F_Tr_leastPaid_b7
    refine sv_iload_n (pc := 7) 2 (sv_d k_Tr_leastPaid 5 rfl) rfl rfl ?_
    refine sv_aload_n (pc := 8) 0 (sv_d k_Tr_leastPaid 6 rfl) rfl rfl ?_
    refine sv_getf (pc := 9) 9 (sv_d k_Tr_leastPaid 7 rfl) cf9 (by decide) w360 kd151 (ss_lt (by decide)) rfl ?_
    refine sv_icmp_ge (pc := 12) (tgt := 36) (sv_d k_Tr_leastPaid 8 rfl) (by decide) ?_ ?_
    · refine sv_iload_n (pc := 36) 1 (sv_d k_Tr_leastPaid 20 rfl) rfl rfl ?_
      exact sv_ret (pc := 37) (sv_d k_Tr_leastPaid 21 rfl) ⟨_, rfl, rfl⟩ rfl
    · refine sv_iload_n (pc := 15) 1 (sv_d k_Tr_leastPaid 9 rfl) rfl rfl ?_
      refine sv_aload_n (pc := 16) 0 (sv_d k_Tr_leastPaid 10 rfl) rfl rfl ?_
      refine sv_aload_n (pc := 17) 0 (sv_d k_Tr_leastPaid 11 rfl) rfl rfl ?_
      refine sv_getf (pc := 18) 8 (sv_d k_Tr_leastPaid 12 rfl) cf9 (by decide) w359 kd151 (ss_lt (by decide)) (lr_151_8 E _) ?_
      refine sv_iload_n (pc := 21) 2 (sv_d k_Tr_leastPaid 13 rfl) rfl rfl ?_
      refine ss_iald (pc := 22) (n := 80) (sv_d k_Tr_leastPaid 14 rfl) kd158 (ss_lt (by decide)) rfl ?_
      refine sv_callV (pc := 23) (ψ := (ss_pi s)) (As := [.int (s.1 158 x2.toNatClampNeg)]) (rest := [.int x1]) (c := 151) (sv_d k_Tr_leastPaid 15 rfl) g_Tr_paidPerTon w1204 in_Tr_paidPerTon se_Tr_paidPerTon cf9 kd151 (ss_lt (by decide)) rfl (Nat.le_of_ble_eq_true rfl) (V_Tr_paidPerTon E (d + 1) (s.1 158 x2.toNatClampNeg) s) (Nat.le_of_ble_eq_true rfl) rfl (fun r2 => ?_)
      show sv_V E _ _ _ 26 _ [.int r2, .int x1] (ss_e s) _
      refine sv_callS (pc := 26) (ψ := (ss_pi s)) (As := [.int x1, .int r2]) (rest := []) (sv_d k_Tr_leastPaid 16 rfl) g_JM_min w1208 st_JM_min rfl (Nat.le_of_ble_eq_true rfl) (V_JM_min E (d + 1) x1 r2 s) (Nat.le_of_ble_eq_true rfl) rfl (fun r3 => ?_)
      show sv_V E _ _ _ 29 _ [.int r3] (ss_e s) _
      refine sv_istore_n (pc := 29) (lv' := [(1, .int r3), (0, sv_r E 151), (2, .int x2)]) (sv_d k_Tr_leastPaid 17 rfl) rfl (by decide) rfl ?_
      refine ss_letr (fun v4 e_v4 => ?_)
      refine sv_iinc (pc := 30) (v := v4) (lv' := [(2, .int v4), (1, .int r3), (0, sv_r E 151)]) (sv_d k_Tr_leastPaid 18 rfl) (n := 2) rfl (by rw [e_v4]; rfl) (by decide) rfl ?_
      refine sv_goto (pc := 33) (tgt := 7) (sv_d k_Tr_leastPaid 19 rfl) (by decide) ?_
      exact sv_loc [2, 1, 0] rfl (ih r3 v4)
def F_Tr_leastPaid (s : sv_S) : Option (Int32) :=
  (F_Tr_greatestPaid s).bind fun r1 =>
  F_Tr_leastPaid_b7 s ss_F r1 (0 : Int32)
theorem V_Tr_leastPaid (E : sv_E) (d : Nat) (s : sv_S) : sv_V E m_Tr_leastPaid (d + 2) (ss_pi s) 0 (lv_args 0 [sv_r E 151]) [] (ss_e s) (F_Tr_leastPaid s) := by
  show sv_V E m_Tr_leastPaid (d + 2) (ss_pi s) 0 [(0, sv_r E 151)] [] (ss_e s) _
  unfold F_Tr_leastPaid
  refine sv_aload_n (pc := 0) 0 (sv_d k_Tr_leastPaid 0 rfl) rfl rfl ?_
  refine sv_callV (pc := 1) (ψ := (ss_pi s)) (As := []) (rest := []) (c := 151) (sv_d k_Tr_leastPaid 1 rfl) g_Tr_greatestPaid w1200 in_Tr_greatestPaid se_Tr_greatestPaid cf9 kd151 (ss_lt (by decide)) rfl (Nat.le_of_ble_eq_true rfl) (V_Tr_greatestPaid E (d + 0) s) (Nat.le_of_ble_eq_true rfl) rfl (fun r1 => ?_)
  show sv_V E _ _ _ 4 _ [.int r1] (ss_e s) _
  refine sv_istore_n (pc := 4) (lv' := [(1, .int r1), (0, sv_r E 151)]) (sv_d k_Tr_leastPaid 2 rfl) rfl (by decide) rfl ?_
  refine sv_iconst (pc := 5) (v := (0 : Int32)) (sv_d k_Tr_leastPaid 3 rfl) (by decide) ?_
  refine sv_istore_n (pc := 6) (lv' := [(2, .int (0 : Int32)), (1, .int r1), (0, sv_r E 151)]) (sv_d k_Tr_leastPaid 4 rfl) rfl (by decide) rfl ?_
  exact sv_loc [2, 1, 0] rfl (V_Tr_leastPaid_b7 E d s ss_F r1 (0 : Int32))
/-! Tr_rebate -/
abbrev m_Tr_rebate : sv_M := (yX9_rebate, cX9_rebate, 5, (some .int))
def t_Tr_rebate : List (Nat × Instr × Nat) := [(0, .aload_n 0, 1), (1, .invokevirtual 137, 3), (4, .istore_n 1, 1), (5, .iconst 0, 1), (6, .istore_n 2, 1), (7, .iconst 0, 1), (8, .istore_n 3, 1), (9, .iload_n 3, 1), (10, .aload_n 0, 1), (11, .getfield 134, 3), (14, .if_icmp .ge 41, 3), (17, .aload_n 0, 1), (18, .getfield 32, 3), (21, .iload_n 3, 1), (22, .iaload, 1), (23, .istore 4, 2), (25, .iload_n 2, 1), (26, .iconst 0, 1), (27, .iload_n 1, 1), (28, .aload_n 0, 1), (29, .getfield 18, 3), (32, .iload 4, 2), (34, .iaload, 1), (35, .imul, 1), (36, .aload_n 0, 1), (37, .getfield 21, 3), (40, .iload 4, 2), (42, .iaload, 1), (43, .isub, 1), (44, .invokestatic 65, 3), (47, .iadd, 1), (48, .istore_n 2, 1), (49, .iinc 3 1, 3), (52, .goto (-43), 3), (55, .iload_n 2, 1), (56, .ireturn, 1)]
theorem k_Tr_rebate : sv_tk m_Tr_rebate.2.1 t_Tr_rebate := by decide +kernel
theorem g_Tr_rebate : sv_G m_Tr_rebate 0 := ⟨by decide +kernel, sv_in 1213 (by decide +kernel) rfl, sv_in 98 (by decide +kernel) rfl, ⟨by decide, by decide⟩, by decide +kernel, by decide⟩
theorem in_Tr_rebate : Cond.instanceMethod m_Tr_rebate.1 ∈ sv_T := sv_in 1211 (by decide +kernel) rfl
theorem se_Tr_rebate : Cond.selects m_Tr_rebate.1.cls m_Tr_rebate.1 m_Tr_rebate.1 ∈ sv_T := sv_in 1212 (by decide +kernel) rfl
def F_Tr_rebate_b9 (s : sv_S) : Nat → Int32 → Int32 → Int32 → Option (Int32)
  | 0 => fun _ _ _ => none
  | n + 1 => fun x1 x2 x3 =>
    if (s.1 151 9) ≤ x3 then
      some x2
    else
    if sv_ib x3 80 = true then
      ss_let (s.1 158 x3.toNatClampNeg) fun v2 =>
      if sv_ib v2 80 = true then
        if sv_ib v2 80 = true then
          (F_JM_max (0 : Int32) ((x1 * (s.1 154 v2.toNatClampNeg)) - (s.1 155 v2.toNatClampNeg)) s).bind fun r3 =>
          ss_let (x2 + r3) fun v4 =>
          ss_let (x3 + (1 : Int32)) fun v5 =>
          F_Tr_rebate_b9 s n x1 v4 v5
        else none
      else none
    else none
theorem V_Tr_rebate_b9 (E : sv_E) (d : Nat) (s : sv_S) : ∀ (n : Nat) (x1 : Int32) (x2 : Int32) (x3 : Int32), sv_V E m_Tr_rebate (d + 2) (ss_pi s) 9 [(0, sv_r E 151), (1, .int x1), (2, .int x2), (3, .int x3)] [] (ss_e s) (F_Tr_rebate_b9 s n x1 x2 x3) := by
  intro n
  induction n with
  | zero => intro x1 x2 x3; exact sv_none
  | succ n ih =>
    intro x1 x2 x3
    unfold F_Tr_rebate_b9
    refine sv_iload_n (pc := 9) 3 (sv_d k_Tr_rebate 7 rfl) rfl rfl ?_
    refine sv_aload_n (pc := 10) 0 (sv_d k_Tr_rebate 8 rfl) rfl rfl ?_
    refine sv_getf (pc := 11) 9 (sv_d k_Tr_rebate 9 rfl) cf9 (by decide) w360 kd151 (ss_lt (by decide)) rfl ?_
    refine sv_icmp_ge (pc := 14) (tgt := 55) (sv_d k_Tr_rebate 10 rfl) (by decide) ?_ ?_
    · refine sv_iload_n (pc := 55) 2 (sv_d k_Tr_rebate 34 rfl) rfl rfl ?_
      exact sv_ret (pc := 56) (sv_d k_Tr_rebate 35 rfl) ⟨_, rfl, rfl⟩ rfl
    · refine sv_aload_n (pc := 17) 0 (sv_d k_Tr_rebate 11 rfl) rfl rfl ?_
      refine sv_getf (pc := 18) 8 (sv_d k_Tr_rebate 12 rfl) cf9 (by decide) w359 kd151 (ss_lt (by decide)) (lr_151_8 E _) ?_
      refine sv_iload_n (pc := 21) 3 (sv_d k_Tr_rebate 13 rfl) rfl rfl ?_
      refine ss_iald (pc := 22) (n := 80) (sv_d k_Tr_rebate 14 rfl) kd158 (ss_lt (by decide)) rfl ?_
      refine ss_top (fun v2 e_v2 => ?_)
      refine sv_istore (pc := 23) (lv' := [(4, .int v2), (0, sv_r E 151), (1, .int x1), (2, .int x2), (3, .int x3)]) (sv_d k_Tr_rebate 15 rfl) (by decide) rfl ?_
      refine sv_iload_n (pc := 25) 3 (sv_d k_Tr_rebate 16 rfl) rfl rfl ?_
      refine sv_iconst (pc := 26) (v := (0 : Int32)) (sv_d k_Tr_rebate 17 rfl) (by decide) ?_
      refine sv_iload_n (pc := 27) 2 (sv_d k_Tr_rebate 18 rfl) rfl rfl ?_
      refine sv_aload_n (pc := 28) 1 (sv_d k_Tr_rebate 19 rfl) rfl rfl ?_
      refine sv_getf (pc := 29) 4 (sv_d k_Tr_rebate 20 rfl) cf9 (by decide) w355 kd151 (ss_lt (by decide)) (lr_151_4 E _) ?_
      refine sv_iload (pc := 32) 0 (sv_d k_Tr_rebate 21 rfl) rfl ?_
      refine ss_iald (pc := 34) (n := 80) (sv_d k_Tr_rebate 22 rfl) kd154 (ss_lt (by decide)) rfl ?_
      refine sv_imul (pc := 35) (sv_d k_Tr_rebate 23 rfl) ?_
      refine sv_aload_n (pc := 36) 1 (sv_d k_Tr_rebate 24 rfl) rfl rfl ?_
      refine sv_getf (pc := 37) 5 (sv_d k_Tr_rebate 25 rfl) cf9 (by decide) w356 kd151 (ss_lt (by decide)) (lr_151_5 E _) ?_
      refine sv_iload (pc := 40) 0 (sv_d k_Tr_rebate 26 rfl) rfl ?_
      refine ss_iald (pc := 42) (n := 80) (sv_d k_Tr_rebate 27 rfl) kd155 (ss_lt (by decide)) rfl ?_
      refine sv_isub (pc := 43) (sv_d k_Tr_rebate 28 rfl) ?_
      refine sv_callS (pc := 44) (ψ := (ss_pi s)) (As := [.int (0 : Int32), .int ((x1 * (s.1 154 v2.toNatClampNeg)) - (s.1 155 v2.toNatClampNeg))]) (rest := [.int x2]) (sv_d k_Tr_rebate 29 rfl) g_JM_max w995 st_JM_max rfl (Nat.le_of_ble_eq_true rfl) (V_JM_max E (d + 1) (0 : Int32) ((x1 * (s.1 154 v2.toNatClampNeg)) - (s.1 155 v2.toNatClampNeg)) s) (Nat.le_of_ble_eq_true rfl) rfl (fun r3 => ?_)
      show sv_V E _ _ _ 47 _ [.int r3, .int x2] (ss_e s) _
      refine sv_iadd (pc := 47) (sv_d k_Tr_rebate 30 rfl) ?_
      refine ss_top (fun v4 e_v4 => ?_)
      refine sv_istore_n (pc := 48) (lv' := [(2, .int v4), (4, .int v2), (0, sv_r E 151), (1, .int x1), (3, .int x3)]) (sv_d k_Tr_rebate 31 rfl) rfl (by decide) rfl ?_
      refine ss_letr (fun v5 e_v5 => ?_)
      refine sv_iinc (pc := 49) (v := v5) (lv' := [(3, .int v5), (2, .int v4), (4, .int v2), (0, sv_r E 151), (1, .int x1)]) (sv_d k_Tr_rebate 32 rfl) (n := 4) rfl (by rw [e_v5]; rfl) (by decide) rfl ?_
      refine sv_goto (pc := 52) (tgt := 9) (sv_d k_Tr_rebate 33 rfl) (by decide) ?_
      exact sv_loc [3, 4, 1, 0] rfl (ih x1 v4 v5)
def F_Tr_rebate (s : sv_S) : Option (Int32) :=
  (F_Tr_greatestPaid s).bind fun r1 =>
  F_Tr_rebate_b9 s ss_F r1 (0 : Int32) (0 : Int32)
theorem V_Tr_rebate (E : sv_E) (d : Nat) (s : sv_S) : sv_V E m_Tr_rebate (d + 2) (ss_pi s) 0 (lv_args 0 [sv_r E 151]) [] (ss_e s) (F_Tr_rebate s) := by
  show sv_V E m_Tr_rebate (d + 2) (ss_pi s) 0 [(0, sv_r E 151)] [] (ss_e s) _
  unfold F_Tr_rebate
  refine sv_aload_n (pc := 0) 0 (sv_d k_Tr_rebate 0 rfl) rfl rfl ?_
  refine sv_callV (pc := 1) (ψ := (ss_pi s)) (As := []) (rest := []) (c := 151) (sv_d k_Tr_rebate 1 rfl) g_Tr_greatestPaid w1200 in_Tr_greatestPaid se_Tr_greatestPaid cf9 kd151 (ss_lt (by decide)) rfl (Nat.le_of_ble_eq_true rfl) (V_Tr_greatestPaid E (d + 0) s) (Nat.le_of_ble_eq_true rfl) rfl (fun r1 => ?_)
  show sv_V E _ _ _ 4 _ [.int r1] (ss_e s) _
  refine sv_istore_n (pc := 4) (lv' := [(1, .int r1), (0, sv_r E 151)]) (sv_d k_Tr_rebate 2 rfl) rfl (by decide) rfl ?_
  refine sv_iconst (pc := 5) (v := (0 : Int32)) (sv_d k_Tr_rebate 3 rfl) (by decide) ?_
  refine sv_istore_n (pc := 6) (lv' := [(2, .int (0 : Int32)), (1, .int r1), (0, sv_r E 151)]) (sv_d k_Tr_rebate 4 rfl) rfl (by decide) rfl ?_
  refine sv_iconst (pc := 7) (v := (0 : Int32)) (sv_d k_Tr_rebate 5 rfl) (by decide) ?_
  refine sv_istore_n (pc := 8) (lv' := [(3, .int (0 : Int32)), (2, .int (0 : Int32)), (1, .int r1), (0, sv_r E 151)]) (sv_d k_Tr_rebate 6 rfl) rfl (by decide) rfl ?_
  exact sv_loc [3, 2, 1, 0] rfl (V_Tr_rebate_b9 E d s ss_F r1 (0 : Int32) (0 : Int32))
