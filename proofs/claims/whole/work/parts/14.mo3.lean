/-! Mo_printed -/
abbrev m_Mo_printed : sv_M := (yX12_printed, cX12_printed, 3, (some .int))
def t_Mo_printed : List (Nat × Instr × Nat) := [(0, .aload_n 0, 1), (1, .iload_n 1, 1), (2, .aload_n 0, 1), (3, .getfield 7, 3), (6, .invokevirtual 358, 3), (9, .iload_n 2, 1), (10, .aload_n 0, 1), (11, .getfield 7, 3), (14, .aload_n 0, 1), (15, .getfield 65, 3), (18, .iconst 2, 1), (19, .iaload, 1), (20, .iadd, 1), (21, .if_icmp .le 7, 3), (24, .iload_n 2, 1), (25, .goto 14, 3), (28, .aload_n 0, 1), (29, .getfield 7, 3), (32, .aload_n 0, 1), (33, .getfield 65, 3), (36, .iconst 2, 1), (37, .iaload, 1), (38, .iadd, 1), (39, .ireturn, 1)]
theorem k_Mo_printed : sv_tk m_Mo_printed.2.1 t_Mo_printed := by decide +kernel
theorem g_Mo_printed : sv_G m_Mo_printed 2 := ⟨by decide +kernel, sv_in 1689 (by decide +kernel) rfl, sv_in 103 (by decide +kernel) rfl, ⟨by decide, by decide⟩, by decide +kernel, by decide⟩
theorem in_Mo_printed : Cond.instanceMethod m_Mo_printed.1 ∈ sv_T := sv_in 1688 (by decide +kernel) rfl
theorem se_Mo_printed : Cond.selects m_Mo_printed.1.cls m_Mo_printed.1 m_Mo_printed.1 ∈ sv_T := sv_in 59 (by decide +kernel) rfl
def F_Mo_printed (x1 : Int32) (x2 : Int32) (s : sv_S) : Option (Int32 × sv_S) :=
  (F_Mo_look x1 (s.1 187 0) s).bind fun r1 =>
  if sv_ib (2 : Int32) 5 = true then
    if x2 ≤ ((r1.1 187 0) + (r1.1 201 (2 : Int32).toNatClampNeg)) then
      if sv_ib (2 : Int32) 5 = true then
        some ((r1.1 187 0) + (r1.1 201 (2 : Int32).toNatClampNeg), r1)
      else none
    else
    some (x2, r1)
  else none
theorem V_Mo_printed (E : sv_E) (d : Nat) (x1 : Int32) (x2 : Int32) (s : sv_S) : sv_V E m_Mo_printed (d + 8) ss_i 0 (lv_args 0 [sv_r E 187, .int x1, .int x2]) [] (ss_e s) (F_Mo_printed x1 x2 s) := by
  show sv_V E m_Mo_printed (d + 8) ss_i 0 [(0, sv_r E 187), (1, .int x1), (2, .int x2)] [] (ss_e s) _
  unfold F_Mo_printed
  refine sv_aload_n (pc := 0) 0 (sv_d k_Mo_printed 0 rfl) rfl rfl ?_
  refine sv_iload_n (pc := 1) 1 (sv_d k_Mo_printed 1 rfl) rfl rfl ?_
  refine sv_aload_n (pc := 2) 0 (sv_d k_Mo_printed 2 rfl) rfl rfl ?_
  refine sv_getf (pc := 3) 0 (sv_d k_Mo_printed 3 rfl) cf12 (by decide) w1302 kd187 (ss_lt (by decide)) rfl ?_
  refine sv_callV (pc := 6) (ψ := ss_v) (As := [.int x1, .int (s.1 187 0)]) (rest := []) (c := 187) (sv_d k_Mo_printed 4 rfl) g_Mo_look w1670 in_Mo_look se_Mo_look cf12 kd187 (ss_lt (by decide)) rfl (Nat.le_of_ble_eq_true rfl) (V_Mo_look E (d + 0) x1 (s.1 187 0) s) (Nat.le_of_ble_eq_true rfl) rfl (fun r1 => ?_)
  show sv_V E _ _ _ 9 _ [] (ss_e r1) _
  refine sv_iload_n (pc := 9) 2 (sv_d k_Mo_printed 5 rfl) rfl rfl ?_
  refine sv_aload_n (pc := 10) 0 (sv_d k_Mo_printed 6 rfl) rfl rfl ?_
  refine sv_getf (pc := 11) 0 (sv_d k_Mo_printed 7 rfl) cf12 (by decide) w1302 kd187 (ss_lt (by decide)) rfl ?_
  refine sv_aload_n (pc := 14) 0 (sv_d k_Mo_printed 8 rfl) rfl rfl ?_
  refine sv_getf (pc := 15) 18 (sv_d k_Mo_printed 9 rfl) cf12 (by decide) w1320 kd187 (ss_lt (by decide)) (lr_187_18 E _) ?_
  refine sv_iconst (pc := 18) (v := (2 : Int32)) (sv_d k_Mo_printed 10 rfl) (by decide) ?_
  refine ss_iald (pc := 19) (n := 5) (sv_d k_Mo_printed 11 rfl) kd201 (ss_lt (by decide)) rfl ?_
  refine sv_iadd (pc := 20) (sv_d k_Mo_printed 12 rfl) ?_
  refine sv_icmp_le (pc := 21) (tgt := 28) (sv_d k_Mo_printed 13 rfl) (by decide) ?_ ?_
  · refine sv_aload_n (pc := 28) 0 (sv_d k_Mo_printed 16 rfl) rfl rfl ?_
    refine sv_getf (pc := 29) 0 (sv_d k_Mo_printed 17 rfl) cf12 (by decide) w1302 kd187 (ss_lt (by decide)) rfl ?_
    refine sv_aload_n (pc := 32) 0 (sv_d k_Mo_printed 18 rfl) rfl rfl ?_
    refine sv_getf (pc := 33) 18 (sv_d k_Mo_printed 19 rfl) cf12 (by decide) w1320 kd187 (ss_lt (by decide)) (lr_187_18 E _) ?_
    refine sv_iconst (pc := 36) (v := (2 : Int32)) (sv_d k_Mo_printed 20 rfl) (by decide) ?_
    refine ss_iald (pc := 37) (n := 5) (sv_d k_Mo_printed 21 rfl) kd201 (ss_lt (by decide)) rfl ?_
    refine sv_iadd (pc := 38) (sv_d k_Mo_printed 22 rfl) ?_
    exact sv_ret (pc := 39) (sv_d k_Mo_printed 23 rfl) ⟨_, rfl, rfl⟩ rfl
  · refine sv_iload_n (pc := 24) 2 (sv_d k_Mo_printed 14 rfl) rfl rfl ?_
    refine sv_goto (pc := 25) (tgt := 39) (sv_d k_Mo_printed 15 rfl) (by decide) ?_
    exact sv_ret (pc := 39) (sv_d k_Mo_printed 23 rfl) ⟨_, rfl, rfl⟩ rfl
/-! Mo_add -/
abbrev m_Mo_add : sv_M := (yX12_add, cX12_add, 10, (some .int))
def t_Mo_add : List (Nat × Instr × Nat) := [(0, .aload_n 0, 1), (1, .getfield 112, 3), (4, .aload_n 0, 1), (5, .getfield 109, 3), (8, .iload_n 1, 1), (9, .iastore, 1), (10, .aload_n 0, 1), (11, .getfield 115, 3), (14, .aload_n 0, 1), (15, .getfield 109, 3), (18, .iload_n 2, 1), (19, .iastore, 1), (20, .aload_n 0, 1), (21, .getfield 118, 3), (24, .aload_n 0, 1), (25, .getfield 109, 3), (28, .iload_n 3, 1), (29, .iastore, 1), (30, .aload_n 0, 1), (31, .getfield 121, 3), (34, .aload_n 0, 1), (35, .getfield 109, 3), (38, .iload 4, 2), (40, .iastore, 1), (41, .aload_n 0, 1), (42, .getfield 124, 3), (45, .aload_n 0, 1), (46, .getfield 109, 3), (49, .iload 5, 2), (51, .iastore, 1), (52, .aload_n 0, 1), (53, .getfield 130, 3), (56, .aload_n 0, 1), (57, .getfield 109, 3), (60, .iload 6, 2), (62, .iastore, 1), (63, .aload_n 0, 1), (64, .getfield 133, 3), (67, .aload_n 0, 1), (68, .getfield 109, 3), (71, .iconst (-1), 1), (72, .iastore, 1), (73, .aload_n 0, 1), (74, .getfield 127, 3), (77, .aload_n 0, 1), (78, .getfield 109, 3), (81, .iload 7, 2), (83, .iastore, 1), (84, .aload_n 0, 1), (85, .getfield 136, 3), (88, .aload_n 0, 1), (89, .getfield 109, 3), (92, .iload 8, 2), (94, .iastore, 1), (95, .aload_n 0, 1), (96, .getfield 139, 3), (99, .aload_n 0, 1), (100, .getfield 109, 3), (103, .iload 9, 2), (105, .iastore, 1), (106, .aload_n 0, 1), (107, .dup, 1), (108, .getfield 109, 3), (111, .iconst 1, 1), (112, .iadd, 1), (113, .putfield 109, 3), (116, .aload_n 0, 1), (117, .getfield 109, 3), (120, .iconst 1, 1), (121, .isub, 1), (122, .ireturn, 1)]
theorem k_Mo_add : sv_tk m_Mo_add.2.1 t_Mo_add := by decide +kernel
theorem g_Mo_add : sv_G m_Mo_add 9 := ⟨by decide +kernel, sv_in 1693 (by decide +kernel) rfl, sv_in 103 (by decide +kernel) rfl, ⟨by decide, by decide⟩, by decide +kernel, by decide⟩
theorem in_Mo_add : Cond.instanceMethod m_Mo_add.1 ∈ sv_T := sv_in 1692 (by decide +kernel) rfl
theorem se_Mo_add : Cond.selects m_Mo_add.1.cls m_Mo_add.1 m_Mo_add.1 ∈ sv_T := sv_in 60 (by decide +kernel) rfl
def F_Mo_add (x1 : Int32) (x2 : Int32) (x3 : Int32) (x4 : Int32) (x5 : Int32) (x6 : Int32) (x7 : Int32) (x8 : Int32) (x9 : Int32) (s : sv_S) : Option (Int32 × sv_S) :=
  if sv_ib (s.1 187 32) 60 = true then
    ss_let (ss_setI s 205 (s.1 187 32).toNatClampNeg x1) fun s1 =>
    if sv_ib (s1.1 187 32) 60 = true then
      ss_let (ss_setI s1 206 (s1.1 187 32).toNatClampNeg x2) fun s2 =>
      if sv_ib (s2.1 187 32) 60 = true then
        ss_let (ss_setI s2 207 (s2.1 187 32).toNatClampNeg x3) fun s3 =>
        if sv_ib (s3.1 187 32) 60 = true then
          ss_let (ss_setI s3 208 (s3.1 187 32).toNatClampNeg x4) fun s4 =>
          if sv_ib (s4.1 187 32) 60 = true then
            ss_let (ss_setI s4 209 (s4.1 187 32).toNatClampNeg x5) fun s5 =>
            if sv_ib (s5.1 187 32) 60 = true then
              ss_let (ss_setI s5 211 (s5.1 187 32).toNatClampNeg x6) fun s6 =>
              if sv_ib (s6.1 187 32) 60 = true then
                ss_let (ss_setI s6 212 (s6.1 187 32).toNatClampNeg (-1 : Int32)) fun s7 =>
                if sv_ib (s7.1 187 32) 60 = true then
                  ss_let (ss_setI s7 210 (s7.1 187 32).toNatClampNeg x7) fun s8 =>
                  if sv_ib (s8.1 187 32) 60 = true then
                    ss_let (ss_setI s8 213 (s8.1 187 32).toNatClampNeg x8) fun s9 =>
                    if sv_ib (s9.1 187 32) 60 = true then
                      ss_let (ss_setI s9 214 (s9.1 187 32).toNatClampNeg x9) fun s10 =>
                      ss_let (ss_setI s10 187 32 ((s10.1 187 32) + (1 : Int32))) fun s11 =>
                      some ((s11.1 187 32) - (1 : Int32), s11)
                    else none
                  else none
                else none
              else none
            else none
          else none
        else none
      else none
    else none
  else none
theorem V_Mo_add (E : sv_E) (d : Nat) (x1 : Int32) (x2 : Int32) (x3 : Int32) (x4 : Int32) (x5 : Int32) (x6 : Int32) (x7 : Int32) (x8 : Int32) (x9 : Int32) (s : sv_S) : sv_V E m_Mo_add (d + 0) ss_i 0 (lv_args 0 [sv_r E 187, .int x1, .int x2, .int x3, .int x4, .int x5, .int x6, .int x7, .int x8, .int x9]) [] (ss_e s) (F_Mo_add x1 x2 x3 x4 x5 x6 x7 x8 x9 s) := by
  show sv_V E m_Mo_add (d + 0) ss_i 0 [(0, sv_r E 187), (1, .int x1), (2, .int x2), (3, .int x3), (4, .int x4), (5, .int x5), (6, .int x6), (7, .int x7), (8, .int x8), (9, .int x9)] [] (ss_e s) _
  unfold F_Mo_add
  refine sv_aload_n (pc := 0) 0 (sv_d k_Mo_add 0 rfl) rfl rfl ?_
  refine sv_getf (pc := 1) 33 (sv_d k_Mo_add 1 rfl) cf12 (by decide) w1335 kd187 (ss_lt (by decide)) (lr_187_33 E _) ?_
  refine sv_aload_n (pc := 4) 0 (sv_d k_Mo_add 2 rfl) rfl rfl ?_
  refine sv_getf (pc := 5) 32 (sv_d k_Mo_add 3 rfl) cf12 (by decide) w1334 kd187 (ss_lt (by decide)) rfl ?_
  refine sv_iload_n (pc := 8) 1 (sv_d k_Mo_add 4 rfl) rfl rfl ?_
  refine ss_iast (pc := 9) (n := 60) (sv_d k_Mo_add 5 rfl) kd205 (by decide) (ss_lt (by decide)) rfl (ss_lets (fun s1 e_s1 => ?_))
  refine sv_aload_n (pc := 10) 0 (sv_d k_Mo_add 6 rfl) rfl rfl ?_
  refine sv_getf (pc := 11) 34 (sv_d k_Mo_add 7 rfl) cf12 (by decide) w1336 kd187 (ss_lt (by decide)) (lr_187_34 E _) ?_
  refine sv_aload_n (pc := 14) 0 (sv_d k_Mo_add 8 rfl) rfl rfl ?_
  refine sv_getf (pc := 15) 32 (sv_d k_Mo_add 9 rfl) cf12 (by decide) w1334 kd187 (ss_lt (by decide)) rfl ?_
  refine sv_iload_n (pc := 18) 2 (sv_d k_Mo_add 10 rfl) rfl rfl ?_
  refine ss_iast (pc := 19) (n := 60) (sv_d k_Mo_add 11 rfl) kd206 (by decide) (ss_lt (by decide)) rfl (ss_lets (fun s2 e_s2 => ?_))
  refine sv_aload_n (pc := 20) 0 (sv_d k_Mo_add 12 rfl) rfl rfl ?_
  refine sv_getf (pc := 21) 35 (sv_d k_Mo_add 13 rfl) cf12 (by decide) w1337 kd187 (ss_lt (by decide)) (lr_187_35 E _) ?_
  refine sv_aload_n (pc := 24) 0 (sv_d k_Mo_add 14 rfl) rfl rfl ?_
  refine sv_getf (pc := 25) 32 (sv_d k_Mo_add 15 rfl) cf12 (by decide) w1334 kd187 (ss_lt (by decide)) rfl ?_
  refine sv_iload_n (pc := 28) 3 (sv_d k_Mo_add 16 rfl) rfl rfl ?_
  refine ss_iast (pc := 29) (n := 60) (sv_d k_Mo_add 17 rfl) kd207 (by decide) (ss_lt (by decide)) rfl (ss_lets (fun s3 e_s3 => ?_))
  refine sv_aload_n (pc := 30) 0 (sv_d k_Mo_add 18 rfl) rfl rfl ?_
  refine sv_getf (pc := 31) 36 (sv_d k_Mo_add 19 rfl) cf12 (by decide) w1338 kd187 (ss_lt (by decide)) (lr_187_36 E _) ?_
  refine sv_aload_n (pc := 34) 0 (sv_d k_Mo_add 20 rfl) rfl rfl ?_
  refine sv_getf (pc := 35) 32 (sv_d k_Mo_add 21 rfl) cf12 (by decide) w1334 kd187 (ss_lt (by decide)) rfl ?_
  refine sv_iload (pc := 38) 4 (sv_d k_Mo_add 22 rfl) rfl ?_
  refine ss_iast (pc := 40) (n := 60) (sv_d k_Mo_add 23 rfl) kd208 (by decide) (ss_lt (by decide)) rfl (ss_lets (fun s4 e_s4 => ?_))
  refine sv_aload_n (pc := 41) 0 (sv_d k_Mo_add 24 rfl) rfl rfl ?_
  refine sv_getf (pc := 42) 37 (sv_d k_Mo_add 25 rfl) cf12 (by decide) w1339 kd187 (ss_lt (by decide)) (lr_187_37 E _) ?_
  refine sv_aload_n (pc := 45) 0 (sv_d k_Mo_add 26 rfl) rfl rfl ?_
  refine sv_getf (pc := 46) 32 (sv_d k_Mo_add 27 rfl) cf12 (by decide) w1334 kd187 (ss_lt (by decide)) rfl ?_
  refine sv_iload (pc := 49) 5 (sv_d k_Mo_add 28 rfl) rfl ?_
  refine ss_iast (pc := 51) (n := 60) (sv_d k_Mo_add 29 rfl) kd209 (by decide) (ss_lt (by decide)) rfl (ss_lets (fun s5 e_s5 => ?_))
  refine sv_aload_n (pc := 52) 0 (sv_d k_Mo_add 30 rfl) rfl rfl ?_
  refine sv_getf (pc := 53) 39 (sv_d k_Mo_add 31 rfl) cf12 (by decide) w1341 kd187 (ss_lt (by decide)) (lr_187_39 E _) ?_
  refine sv_aload_n (pc := 56) 0 (sv_d k_Mo_add 32 rfl) rfl rfl ?_
  refine sv_getf (pc := 57) 32 (sv_d k_Mo_add 33 rfl) cf12 (by decide) w1334 kd187 (ss_lt (by decide)) rfl ?_
  refine sv_iload (pc := 60) 6 (sv_d k_Mo_add 34 rfl) rfl ?_
  refine ss_iast (pc := 62) (n := 60) (sv_d k_Mo_add 35 rfl) kd211 (by decide) (ss_lt (by decide)) rfl (ss_lets (fun s6 e_s6 => ?_))
  refine sv_aload_n (pc := 63) 0 (sv_d k_Mo_add 36 rfl) rfl rfl ?_
  refine sv_getf (pc := 64) 40 (sv_d k_Mo_add 37 rfl) cf12 (by decide) w1342 kd187 (ss_lt (by decide)) (lr_187_40 E _) ?_
  refine sv_aload_n (pc := 67) 0 (sv_d k_Mo_add 38 rfl) rfl rfl ?_
  refine sv_getf (pc := 68) 32 (sv_d k_Mo_add 39 rfl) cf12 (by decide) w1334 kd187 (ss_lt (by decide)) rfl ?_
  refine sv_iconst (pc := 71) (v := (-1 : Int32)) (sv_d k_Mo_add 40 rfl) (by decide) ?_
  refine ss_iast (pc := 72) (n := 60) (sv_d k_Mo_add 41 rfl) kd212 (by decide) (ss_lt (by decide)) rfl (ss_lets (fun s7 e_s7 => ?_))
  refine sv_aload_n (pc := 73) 0 (sv_d k_Mo_add 42 rfl) rfl rfl ?_
  refine sv_getf (pc := 74) 38 (sv_d k_Mo_add 43 rfl) cf12 (by decide) w1340 kd187 (ss_lt (by decide)) (lr_187_38 E _) ?_
  refine sv_aload_n (pc := 77) 0 (sv_d k_Mo_add 44 rfl) rfl rfl ?_
  refine sv_getf (pc := 78) 32 (sv_d k_Mo_add 45 rfl) cf12 (by decide) w1334 kd187 (ss_lt (by decide)) rfl ?_
  refine sv_iload (pc := 81) 7 (sv_d k_Mo_add 46 rfl) rfl ?_
  refine ss_iast (pc := 83) (n := 60) (sv_d k_Mo_add 47 rfl) kd210 (by decide) (ss_lt (by decide)) rfl (ss_lets (fun s8 e_s8 => ?_))
  refine sv_aload_n (pc := 84) 0 (sv_d k_Mo_add 48 rfl) rfl rfl ?_
  refine sv_getf (pc := 85) 41 (sv_d k_Mo_add 49 rfl) cf12 (by decide) w1343 kd187 (ss_lt (by decide)) (lr_187_41 E _) ?_
  refine sv_aload_n (pc := 88) 0 (sv_d k_Mo_add 50 rfl) rfl rfl ?_
  refine sv_getf (pc := 89) 32 (sv_d k_Mo_add 51 rfl) cf12 (by decide) w1334 kd187 (ss_lt (by decide)) rfl ?_
  refine sv_iload (pc := 92) 8 (sv_d k_Mo_add 52 rfl) rfl ?_
  refine ss_iast (pc := 94) (n := 60) (sv_d k_Mo_add 53 rfl) kd213 (by decide) (ss_lt (by decide)) rfl (ss_lets (fun s9 e_s9 => ?_))
  refine sv_aload_n (pc := 95) 0 (sv_d k_Mo_add 54 rfl) rfl rfl ?_
  refine sv_getf (pc := 96) 42 (sv_d k_Mo_add 55 rfl) cf12 (by decide) w1344 kd187 (ss_lt (by decide)) (lr_187_42 E _) ?_
  refine sv_aload_n (pc := 99) 0 (sv_d k_Mo_add 56 rfl) rfl rfl ?_
  refine sv_getf (pc := 100) 32 (sv_d k_Mo_add 57 rfl) cf12 (by decide) w1334 kd187 (ss_lt (by decide)) rfl ?_
  refine sv_iload (pc := 103) 9 (sv_d k_Mo_add 58 rfl) rfl ?_
  refine ss_iast (pc := 105) (n := 60) (sv_d k_Mo_add 59 rfl) kd214 (by decide) (ss_lt (by decide)) rfl (ss_lets (fun s10 e_s10 => ?_))
  refine sv_aload_n (pc := 106) 0 (sv_d k_Mo_add 60 rfl) rfl rfl ?_
  refine sv_dup (pc := 107) (sv_d k_Mo_add 61 rfl) rfl ?_
  refine sv_getf (pc := 108) 32 (sv_d k_Mo_add 62 rfl) cf12 (by decide) w1334 kd187 (ss_lt (by decide)) rfl ?_
  refine sv_iconst (pc := 111) (v := (1 : Int32)) (sv_d k_Mo_add 63 rfl) (by decide) ?_
  refine sv_iadd (pc := 112) (sv_d k_Mo_add 64 rfl) ?_
  refine ss_putI (pc := 113) 32 (sv_d k_Mo_add 65 rfl) cf12 (by decide) rfl w1334 kd187 (ss_lt (by decide)) rfl rfl (fun _ => rfl) (ss_lets (fun s11 e_s11 => ?_))
  refine sv_aload_n (pc := 116) 0 (sv_d k_Mo_add 66 rfl) rfl rfl ?_
  refine sv_getf (pc := 117) 32 (sv_d k_Mo_add 67 rfl) cf12 (by decide) w1334 kd187 (ss_lt (by decide)) rfl ?_
  refine sv_iconst (pc := 120) (v := (1 : Int32)) (sv_d k_Mo_add 68 rfl) (by decide) ?_
  refine sv_isub (pc := 121) (sv_d k_Mo_add 69 rfl) ?_
  exact sv_ret (pc := 122) (sv_d k_Mo_add 70 rfl) ⟨_, rfl, rfl⟩ rfl
/-! Mo_rate -/
abbrev m_Mo_rate : sv_M := (yX12_rate, cX12_rate, 8, (some .int))
def t_Mo_rate : List (Nat × Instr × Nat) := [(0, .aload_n 0, 1), (1, .iload_n 2, 1), (2, .invokevirtual 255, 3), (5, .ifCond .eq 20, 3), (8, .aload_n 0, 1), (9, .iload_n 3, 1), (10, .invokevirtual 259, 3), (13, .ifCond .eq 12, 3), (16, .aload_n 0, 1), (17, .iload 4, 2), (19, .invokevirtual 259, 3), (22, .ifCond .ne 5, 3), (25, .iconst (-1), 1), (26, .ireturn, 1), (27, .iload_n 1, 1), (28, .ifCond .eq 18, 3), (31, .iload_n 1, 1), (32, .iconst 1, 1), (33, .if_icmp .eq 13, 3), (36, .iload_n 1, 1), (37, .iconst 3, 1), (38, .if_icmp .eq 8, 3), (41, .iload_n 1, 1), (42, .iconst 4, 1), (43, .if_icmp .ne 60, 3), (46, .iload_n 3, 1), (47, .iload 4, 2), (49, .if_icmp .eq 54, 3), (52, .aload_n 0, 1), (53, .iload 7, 2), (55, .iconst 0, 1), (56, .bipush 9, 2), (58, .invokevirtual 251, 3), (61, .ifCond .eq 42, 3), (64, .aload_n 0, 1), (65, .iload 5, 2), (67, .iconst 0, 1), (68, .iload_n 1, 1), (69, .iconst 3, 1), (70, .if_icmp .ne 8, 3), (73, .bipush 99, 2), (75, .goto 6, 3), (78, .sipush 9999, 3), (81, .invokevirtual 251, 3), (84, .ifCond .eq 19, 3), (87, .aload_n 0, 1), (88, .iload 6, 2), (90, .aload_n 0, 1), (91, .getfield 7, 3), (94, .sipush 9999, 3), (97, .invokevirtual 251, 3), (100, .ifCond .ne 6, 3), (103, .bipush (-2), 2), (105, .ireturn, 1), (106, .aload_n 0, 1), (107, .getfield 109, 3), (110, .bipush 60, 2), (112, .if_icmp .ne 6, 3), (115, .bipush (-4), 2), (117, .ireturn, 1), (118, .aload_n 0, 1), (119, .iload_n 1, 1), (120, .iload_n 2, 1), (121, .iload_n 3, 1), (122, .iload 4, 2), (124, .iload 5, 2), (126, .aload_n 0, 1), (127, .iload_n 2, 1), (128, .iload 6, 2), (130, .invokevirtual 362, 3), (133, .iload 7, 2), (135, .iconst 1, 1), (136, .iconst (-1), 1), (137, .invokevirtual 365, 3), (140, .ireturn, 1)]
theorem k_Mo_rate : sv_tk m_Mo_rate.2.1 t_Mo_rate := by decide +kernel
theorem g_Mo_rate : sv_G m_Mo_rate 7 := ⟨by decide +kernel, sv_in 1685 (by decide +kernel) rfl, sv_in 103 (by decide +kernel) rfl, ⟨by decide, by decide⟩, by decide +kernel, by decide⟩
theorem in_Mo_rate : Cond.instanceMethod m_Mo_rate.1 ∈ sv_T := sv_in 1683 (by decide +kernel) rfl
theorem se_Mo_rate : Cond.selects m_Mo_rate.1.cls m_Mo_rate.1 m_Mo_rate.1 ∈ sv_T := sv_in 1684 (by decide +kernel) rfl
def F_Mo_rate_b81 (x1 : Int32) (x2 : Int32) (x3 : Int32) (x4 : Int32) (x5 : Int32) (x6 : Int32) (x7 : Int32) (t1 : Int32) (t2 : Int32) (t3 : Int32) (s : sv_S) : Option (Int32 × sv_S) :=
  (F_Mo_in t1 t2 t3 s).bind fun r5 =>
  if r5 = 0 then
    some ((-2 : Int32), s)
  else
  (F_Mo_in x6 (s.1 187 0) (9999 : Int32) s).bind fun r6 =>
  if r6 = 0 then
    some ((-2 : Int32), s)
  else
  if (s.1 187 32) = (60 : Int32) then
    some ((-4 : Int32), s)
  else
  (F_Mo_printed x2 x6 s).bind fun r7 =>
  (F_Mo_add x1 x2 x3 x4 x5 r7.1 x7 (1 : Int32) (-1 : Int32) r7.2).bind fun r8 =>
  some (r8.1, r8.2)
theorem V_Mo_rate_b81 (E : sv_E) (d : Nat) (x1 : Int32) (x2 : Int32) (x3 : Int32) (x4 : Int32) (x5 : Int32) (x6 : Int32) (x7 : Int32) (t1 : Int32) (t2 : Int32) (t3 : Int32) (s : sv_S) : sv_V E m_Mo_rate (d + 9) ss_i 81 [(0, sv_r E 187), (1, .int x1), (2, .int x2), (3, .int x3), (4, .int x4), (5, .int x5), (6, .int x6), (7, .int x7)] [.int t3, .int t2, .int t1, sv_r E 187] (ss_e s) (F_Mo_rate_b81 x1 x2 x3 x4 x5 x6 x7 t1 t2 t3 s) := by
  unfold F_Mo_rate_b81
  refine sv_callV (pc := 81) (ψ := (ss_pi s)) (As := [.int t1, .int t2, .int t3]) (rest := []) (c := 187) (sv_d k_Mo_rate 43 rfl) g_Mo_in w1545 in_Mo_in se_Mo_in cf12 kd187 (ss_lt (by decide)) rfl (Nat.le_of_ble_eq_true rfl) (V_Mo_in E (d + 8) t1 t2 t3 s) (Nat.le_of_ble_eq_true rfl) rfl (fun r5 => ?_)
  show sv_V E _ _ _ 84 _ [.int r5] (ss_e s) _
  refine sv_if_eq (pc := 84) (tgt := 103) (sv_d k_Mo_rate 44 rfl) (by decide) ?_ ?_
  · refine sv_bipush (pc := 103) (v := (-2 : Int32)) (sv_d k_Mo_rate 52 rfl) (by decide) ?_
    exact sv_ret (pc := 105) (sv_d k_Mo_rate 53 rfl) ⟨_, rfl, rfl⟩ rfl
  · refine sv_aload_n (pc := 87) 0 (sv_d k_Mo_rate 45 rfl) rfl rfl ?_
    refine sv_iload (pc := 88) 6 (sv_d k_Mo_rate 46 rfl) rfl ?_
    refine sv_aload_n (pc := 90) 0 (sv_d k_Mo_rate 47 rfl) rfl rfl ?_
    refine sv_getf (pc := 91) 0 (sv_d k_Mo_rate 48 rfl) cf12 (by decide) w1302 kd187 (ss_lt (by decide)) rfl ?_
    refine sv_sipush (pc := 94) (v := (9999 : Int32)) (sv_d k_Mo_rate 49 rfl) (by decide) ?_
    refine sv_callV (pc := 97) (ψ := (ss_pi s)) (As := [.int x6, .int (s.1 187 0), .int (9999 : Int32)]) (rest := []) (c := 187) (sv_d k_Mo_rate 50 rfl) g_Mo_in w1545 in_Mo_in se_Mo_in cf12 kd187 (ss_lt (by decide)) rfl (Nat.le_of_ble_eq_true rfl) (V_Mo_in E (d + 8) x6 (s.1 187 0) (9999 : Int32) s) (Nat.le_of_ble_eq_true rfl) rfl (fun r6 => ?_)
    show sv_V E _ _ _ 100 _ [.int r6] (ss_e s) _
    refine sv_if_ne (pc := 100) (tgt := 106) (sv_d k_Mo_rate 51 rfl) (by decide) ?_ ?_
    · refine sv_aload_n (pc := 106) 0 (sv_d k_Mo_rate 54 rfl) rfl rfl ?_
      refine sv_getf (pc := 107) 32 (sv_d k_Mo_rate 55 rfl) cf12 (by decide) w1334 kd187 (ss_lt (by decide)) rfl ?_
      refine sv_bipush (pc := 110) (v := (60 : Int32)) (sv_d k_Mo_rate 56 rfl) (by decide) ?_
      refine sv_icmp_ne (pc := 112) (tgt := 118) (sv_d k_Mo_rate 57 rfl) (by decide) ?_ ?_
      · refine sv_aload_n (pc := 118) 0 (sv_d k_Mo_rate 60 rfl) rfl rfl ?_
        refine sv_iload_n (pc := 119) 1 (sv_d k_Mo_rate 61 rfl) rfl rfl ?_
        refine sv_iload_n (pc := 120) 2 (sv_d k_Mo_rate 62 rfl) rfl rfl ?_
        refine sv_iload_n (pc := 121) 3 (sv_d k_Mo_rate 63 rfl) rfl rfl ?_
        refine sv_iload (pc := 122) 4 (sv_d k_Mo_rate 64 rfl) rfl ?_
        refine sv_iload (pc := 124) 5 (sv_d k_Mo_rate 65 rfl) rfl ?_
        refine sv_aload_n (pc := 126) 0 (sv_d k_Mo_rate 66 rfl) rfl rfl ?_
        refine sv_iload_n (pc := 127) 2 (sv_d k_Mo_rate 67 rfl) rfl rfl ?_
        refine sv_iload (pc := 128) 6 (sv_d k_Mo_rate 68 rfl) rfl ?_
        refine sv_callV (pc := 130) (ψ := ss_i) (As := [.int x2, .int x6]) (rest := [.int x5, .int x4, .int x3, .int x2, .int x1, sv_r E 187]) (c := 187) (sv_d k_Mo_rate 69 rfl) g_Mo_printed w1686 in_Mo_printed se_Mo_printed cf12 kd187 (ss_lt (by decide)) rfl (Nat.le_of_ble_eq_true rfl) (V_Mo_printed E (d + 0) x2 x6 s) (Nat.le_of_ble_eq_true rfl) rfl (fun r7 => ?_)
        show sv_V E _ _ _ 133 _ [.int r7.1, .int x5, .int x4, .int x3, .int x2, .int x1, sv_r E 187] (ss_e r7.2) _
        refine sv_iload (pc := 133) 7 (sv_d k_Mo_rate 70 rfl) rfl ?_
        refine sv_iconst (pc := 135) (v := (1 : Int32)) (sv_d k_Mo_rate 71 rfl) (by decide) ?_
        refine sv_iconst (pc := 136) (v := (-1 : Int32)) (sv_d k_Mo_rate 72 rfl) (by decide) ?_
        refine sv_callV (pc := 137) (ψ := ss_i) (As := [.int x1, .int x2, .int x3, .int x4, .int x5, .int r7.1, .int x7, .int (1 : Int32), .int (-1 : Int32)]) (rest := []) (c := 187) (sv_d k_Mo_rate 73 rfl) g_Mo_add w1690 in_Mo_add se_Mo_add cf12 kd187 (ss_lt (by decide)) rfl (Nat.le_of_ble_eq_true rfl) (V_Mo_add E (d + 8) x1 x2 x3 x4 x5 r7.1 x7 (1 : Int32) (-1 : Int32) r7.2) (Nat.le_of_ble_eq_true rfl) rfl (fun r8 => ?_)
        show sv_V E _ _ _ 140 _ [.int r8.1] (ss_e r8.2) _
        exact sv_ret (pc := 140) (sv_d k_Mo_rate 74 rfl) ⟨_, rfl, rfl⟩ rfl
      · refine sv_bipush (pc := 115) (v := (-4 : Int32)) (sv_d k_Mo_rate 58 rfl) (by decide) ?_
        exact sv_ret (pc := 117) (sv_d k_Mo_rate 59 rfl) ⟨_, rfl, rfl⟩ rfl
    · refine sv_bipush (pc := 103) (v := (-2 : Int32)) (sv_d k_Mo_rate 52 rfl) (by decide) ?_
      exact sv_ret (pc := 105) (sv_d k_Mo_rate 53 rfl) ⟨_, rfl, rfl⟩ rfl
def F_Mo_rate_b46 (x1 : Int32) (x2 : Int32) (x3 : Int32) (x4 : Int32) (x5 : Int32) (x6 : Int32) (x7 : Int32) (s : sv_S) : Option (Int32 × sv_S) :=
  if x3 = x4 then
    some ((-2 : Int32), s)
  else
  (F_Mo_in x7 (0 : Int32) (9 : Int32) s).bind fun r4 =>
  if r4 = 0 then
    some ((-2 : Int32), s)
  else
  if x1 = (3 : Int32) then
    F_Mo_rate_b81 x1 x2 x3 x4 x5 x6 x7 x5 (0 : Int32) (99 : Int32) s
  else
  F_Mo_rate_b81 x1 x2 x3 x4 x5 x6 x7 x5 (0 : Int32) (9999 : Int32) s
theorem V_Mo_rate_b46 (E : sv_E) (d : Nat) (x1 : Int32) (x2 : Int32) (x3 : Int32) (x4 : Int32) (x5 : Int32) (x6 : Int32) (x7 : Int32) (s : sv_S) : sv_V E m_Mo_rate (d + 9) ss_i 46 [(0, sv_r E 187), (1, .int x1), (2, .int x2), (3, .int x3), (4, .int x4), (5, .int x5), (6, .int x6), (7, .int x7)] [] (ss_e s) (F_Mo_rate_b46 x1 x2 x3 x4 x5 x6 x7 s) := by
  unfold F_Mo_rate_b46
  refine sv_iload_n (pc := 46) 3 (sv_d k_Mo_rate 25 rfl) rfl rfl ?_
  refine sv_iload (pc := 47) 4 (sv_d k_Mo_rate 26 rfl) rfl ?_
  refine sv_icmp_eq (pc := 49) (tgt := 103) (sv_d k_Mo_rate 27 rfl) (by decide) ?_ ?_
  · refine sv_bipush (pc := 103) (v := (-2 : Int32)) (sv_d k_Mo_rate 52 rfl) (by decide) ?_
    exact sv_ret (pc := 105) (sv_d k_Mo_rate 53 rfl) ⟨_, rfl, rfl⟩ rfl
  · refine sv_aload_n (pc := 52) 0 (sv_d k_Mo_rate 28 rfl) rfl rfl ?_
    refine sv_iload (pc := 53) 7 (sv_d k_Mo_rate 29 rfl) rfl ?_
    refine sv_iconst (pc := 55) (v := (0 : Int32)) (sv_d k_Mo_rate 30 rfl) (by decide) ?_
    refine sv_bipush (pc := 56) (v := (9 : Int32)) (sv_d k_Mo_rate 31 rfl) (by decide) ?_
    refine sv_callV (pc := 58) (ψ := (ss_pi s)) (As := [.int x7, .int (0 : Int32), .int (9 : Int32)]) (rest := []) (c := 187) (sv_d k_Mo_rate 32 rfl) g_Mo_in w1545 in_Mo_in se_Mo_in cf12 kd187 (ss_lt (by decide)) rfl (Nat.le_of_ble_eq_true rfl) (V_Mo_in E (d + 8) x7 (0 : Int32) (9 : Int32) s) (Nat.le_of_ble_eq_true rfl) rfl (fun r4 => ?_)
    show sv_V E _ _ _ 61 _ [.int r4] (ss_e s) _
    refine sv_if_eq (pc := 61) (tgt := 103) (sv_d k_Mo_rate 33 rfl) (by decide) ?_ ?_
    · refine sv_bipush (pc := 103) (v := (-2 : Int32)) (sv_d k_Mo_rate 52 rfl) (by decide) ?_
      exact sv_ret (pc := 105) (sv_d k_Mo_rate 53 rfl) ⟨_, rfl, rfl⟩ rfl
    · refine sv_aload_n (pc := 64) 0 (sv_d k_Mo_rate 34 rfl) rfl rfl ?_
      refine sv_iload (pc := 65) 5 (sv_d k_Mo_rate 35 rfl) rfl ?_
      refine sv_iconst (pc := 67) (v := (0 : Int32)) (sv_d k_Mo_rate 36 rfl) (by decide) ?_
      refine sv_iload_n (pc := 68) 1 (sv_d k_Mo_rate 37 rfl) rfl rfl ?_
      refine sv_iconst (pc := 69) (v := (3 : Int32)) (sv_d k_Mo_rate 38 rfl) (by decide) ?_
      refine sv_icmp_ne (pc := 70) (tgt := 78) (sv_d k_Mo_rate 39 rfl) (by decide) ?_ ?_
      · refine sv_sipush (pc := 78) (v := (9999 : Int32)) (sv_d k_Mo_rate 42 rfl) (by decide) ?_
        exact sv_loc [0, 1, 2, 3, 4, 5, 6, 7] rfl (V_Mo_rate_b81 E d x1 x2 x3 x4 x5 x6 x7 x5 (0 : Int32) (9999 : Int32) s)
      · refine sv_bipush (pc := 73) (v := (99 : Int32)) (sv_d k_Mo_rate 40 rfl) (by decide) ?_
        refine sv_goto (pc := 75) (tgt := 81) (sv_d k_Mo_rate 41 rfl) (by decide) ?_
        exact sv_loc [0, 1, 2, 3, 4, 5, 6, 7] rfl (V_Mo_rate_b81 E d x1 x2 x3 x4 x5 x6 x7 x5 (0 : Int32) (99 : Int32) s)
def F_Mo_rate (x1 : Int32) (x2 : Int32) (x3 : Int32) (x4 : Int32) (x5 : Int32) (x6 : Int32) (x7 : Int32) (s : sv_S) : Option (Int32 × sv_S) :=
  (F_Mo_isOwner x2 s).bind fun r1 =>
  if r1 = 0 then
    some ((-1 : Int32), s)
  else
  (F_Mo_isStation x3 s).bind fun r2 =>
  if r2 = 0 then
    some ((-1 : Int32), s)
  else
  (F_Mo_isStation x4 s).bind fun r3 =>
  if r3 = 0 then
    some ((-1 : Int32), s)
  else
  if x1 = 0 then
    F_Mo_rate_b46 x1 x2 x3 x4 x5 x6 x7 s
  else
  if x1 = (1 : Int32) then
    F_Mo_rate_b46 x1 x2 x3 x4 x5 x6 x7 s
  else
  if x1 = (3 : Int32) then
    F_Mo_rate_b46 x1 x2 x3 x4 x5 x6 x7 s
  else
  if x1 = (4 : Int32) then
    F_Mo_rate_b46 x1 x2 x3 x4 x5 x6 x7 s
  else
  some ((-2 : Int32), s)
theorem V_Mo_rate (E : sv_E) (d : Nat) (x1 : Int32) (x2 : Int32) (x3 : Int32) (x4 : Int32) (x5 : Int32) (x6 : Int32) (x7 : Int32) (s : sv_S) : sv_V E m_Mo_rate (d + 9) ss_i 0 (lv_args 0 [sv_r E 187, .int x1, .int x2, .int x3, .int x4, .int x5, .int x6, .int x7]) [] (ss_e s) (F_Mo_rate x1 x2 x3 x4 x5 x6 x7 s) := by
  show sv_V E m_Mo_rate (d + 9) ss_i 0 [(0, sv_r E 187), (1, .int x1), (2, .int x2), (3, .int x3), (4, .int x4), (5, .int x5), (6, .int x6), (7, .int x7)] [] (ss_e s) _
  unfold F_Mo_rate
  refine sv_aload_n (pc := 0) 0 (sv_d k_Mo_rate 0 rfl) rfl rfl ?_
  refine sv_iload_n (pc := 1) 2 (sv_d k_Mo_rate 1 rfl) rfl rfl ?_
  refine sv_callV (pc := 2) (ψ := (ss_pi s)) (As := [.int x2]) (rest := []) (c := 187) (sv_d k_Mo_rate 2 rfl) g_Mo_isOwner w1553 in_Mo_isOwner se_Mo_isOwner cf12 kd187 (ss_lt (by decide)) rfl (Nat.le_of_ble_eq_true rfl) (V_Mo_isOwner E (d + 7) x2 s) (Nat.le_of_ble_eq_true rfl) rfl (fun r1 => ?_)
  show sv_V E _ _ _ 5 _ [.int r1] (ss_e s) _
  refine sv_if_eq (pc := 5) (tgt := 25) (sv_d k_Mo_rate 3 rfl) (by decide) ?_ ?_
  · refine sv_iconst (pc := 25) (v := (-1 : Int32)) (sv_d k_Mo_rate 12 rfl) (by decide) ?_
    exact sv_ret (pc := 26) (sv_d k_Mo_rate 13 rfl) ⟨_, rfl, rfl⟩ rfl
  · refine sv_aload_n (pc := 8) 0 (sv_d k_Mo_rate 4 rfl) rfl rfl ?_
    refine sv_iload_n (pc := 9) 3 (sv_d k_Mo_rate 5 rfl) rfl rfl ?_
    refine sv_callV (pc := 10) (ψ := (ss_pi s)) (As := [.int x3]) (rest := []) (c := 187) (sv_d k_Mo_rate 6 rfl) g_Mo_isStation w1557 in_Mo_isStation se_Mo_isStation cf12 kd187 (ss_lt (by decide)) rfl (Nat.le_of_ble_eq_true rfl) (V_Mo_isStation E (d + 7) x3 s) (Nat.le_of_ble_eq_true rfl) rfl (fun r2 => ?_)
    show sv_V E _ _ _ 13 _ [.int r2] (ss_e s) _
    refine sv_if_eq (pc := 13) (tgt := 25) (sv_d k_Mo_rate 7 rfl) (by decide) ?_ ?_
    · refine sv_iconst (pc := 25) (v := (-1 : Int32)) (sv_d k_Mo_rate 12 rfl) (by decide) ?_
      exact sv_ret (pc := 26) (sv_d k_Mo_rate 13 rfl) ⟨_, rfl, rfl⟩ rfl
    · refine sv_aload_n (pc := 16) 0 (sv_d k_Mo_rate 8 rfl) rfl rfl ?_
      refine sv_iload (pc := 17) 4 (sv_d k_Mo_rate 9 rfl) rfl ?_
      refine sv_callV (pc := 19) (ψ := (ss_pi s)) (As := [.int x4]) (rest := []) (c := 187) (sv_d k_Mo_rate 10 rfl) g_Mo_isStation w1557 in_Mo_isStation se_Mo_isStation cf12 kd187 (ss_lt (by decide)) rfl (Nat.le_of_ble_eq_true rfl) (V_Mo_isStation E (d + 7) x4 s) (Nat.le_of_ble_eq_true rfl) rfl (fun r3 => ?_)
      show sv_V E _ _ _ 22 _ [.int r3] (ss_e s) _
      refine sv_if_ne (pc := 22) (tgt := 27) (sv_d k_Mo_rate 11 rfl) (by decide) ?_ ?_
      · refine sv_iload_n (pc := 27) 1 (sv_d k_Mo_rate 14 rfl) rfl rfl ?_
        refine sv_if_eq (pc := 28) (tgt := 46) (sv_d k_Mo_rate 15 rfl) (by decide) ?_ ?_
        · exact sv_loc [0, 1, 2, 3, 4, 5, 6, 7] rfl (V_Mo_rate_b46 E d x1 x2 x3 x4 x5 x6 x7 s)
        · refine sv_iload_n (pc := 31) 1 (sv_d k_Mo_rate 16 rfl) rfl rfl ?_
          refine sv_iconst (pc := 32) (v := (1 : Int32)) (sv_d k_Mo_rate 17 rfl) (by decide) ?_
          refine sv_icmp_eq (pc := 33) (tgt := 46) (sv_d k_Mo_rate 18 rfl) (by decide) ?_ ?_
          · exact sv_loc [0, 1, 2, 3, 4, 5, 6, 7] rfl (V_Mo_rate_b46 E d x1 x2 x3 x4 x5 x6 x7 s)
          · refine sv_iload_n (pc := 36) 1 (sv_d k_Mo_rate 19 rfl) rfl rfl ?_
            refine sv_iconst (pc := 37) (v := (3 : Int32)) (sv_d k_Mo_rate 20 rfl) (by decide) ?_
            refine sv_icmp_eq (pc := 38) (tgt := 46) (sv_d k_Mo_rate 21 rfl) (by decide) ?_ ?_
            · exact sv_loc [0, 1, 2, 3, 4, 5, 6, 7] rfl (V_Mo_rate_b46 E d x1 x2 x3 x4 x5 x6 x7 s)
            · refine sv_iload_n (pc := 41) 1 (sv_d k_Mo_rate 22 rfl) rfl rfl ?_
              refine sv_iconst (pc := 42) (v := (4 : Int32)) (sv_d k_Mo_rate 23 rfl) (by decide) ?_
              refine sv_icmp_ne (pc := 43) (tgt := 103) (sv_d k_Mo_rate 24 rfl) (by decide) ?_ ?_
              · refine sv_bipush (pc := 103) (v := (-2 : Int32)) (sv_d k_Mo_rate 52 rfl) (by decide) ?_
                exact sv_ret (pc := 105) (sv_d k_Mo_rate 53 rfl) ⟨_, rfl, rfl⟩ rfl
              · exact sv_loc [0, 1, 2, 3, 4, 5, 6, 7] rfl (V_Mo_rate_b46 E d x1 x2 x3 x4 x5 x6 x7 s)
      · refine sv_iconst (pc := 25) (v := (-1 : Int32)) (sv_d k_Mo_rate 12 rfl) (by decide) ?_
        exact sv_ret (pc := 26) (sv_d k_Mo_rate 13 rfl) ⟨_, rfl, rfl⟩ rfl
/-! Mo_isGood -/
abbrev m_Mo_isGood : sv_M := (yX12_isGood, cX12_isGood, 2, (some .boolean))
def t_Mo_isGood : List (Nat × Instr × Nat) := [(0, .aload_n 0, 1), (1, .iload_n 1, 1), (2, .iconst 0, 1), (3, .bipush 19, 2), (5, .invokevirtual 251, 3), (8, .ireturn, 1)]
theorem k_Mo_isGood : sv_tk m_Mo_isGood.2.1 t_Mo_isGood := by decide +kernel
theorem g_Mo_isGood : sv_G m_Mo_isGood 1 := ⟨by decide +kernel, sv_in 1701 (by decide +kernel) rfl, sv_in 103 (by decide +kernel) rfl, ⟨by decide, by decide⟩, by decide +kernel, by decide⟩
theorem in_Mo_isGood : Cond.instanceMethod m_Mo_isGood.1 ∈ sv_T := sv_in 1700 (by decide +kernel) rfl
theorem se_Mo_isGood : Cond.selects m_Mo_isGood.1.cls m_Mo_isGood.1 m_Mo_isGood.1 ∈ sv_T := sv_in 61 (by decide +kernel) rfl
def F_Mo_isGood (x1 : Int32) (s : sv_S) : Option (Int32) :=
  (F_Mo_in x1 (0 : Int32) (19 : Int32) s).bind fun r1 =>
  if sv_bl r1 = true then some r1 else none
theorem V_Mo_isGood (E : sv_E) (d : Nat) (x1 : Int32) (s : sv_S) : sv_V E m_Mo_isGood (d + 1) (ss_pi s) 0 (lv_args 0 [sv_r E 187, .int x1]) [] (ss_e s) (F_Mo_isGood x1 s) := by
  show sv_V E m_Mo_isGood (d + 1) (ss_pi s) 0 [(0, sv_r E 187), (1, .int x1)] [] (ss_e s) _
  unfold F_Mo_isGood
  refine sv_aload_n (pc := 0) 0 (sv_d k_Mo_isGood 0 rfl) rfl rfl ?_
  refine sv_iload_n (pc := 1) 1 (sv_d k_Mo_isGood 1 rfl) rfl rfl ?_
  refine sv_iconst (pc := 2) (v := (0 : Int32)) (sv_d k_Mo_isGood 2 rfl) (by decide) ?_
  refine sv_bipush (pc := 3) (v := (19 : Int32)) (sv_d k_Mo_isGood 3 rfl) (by decide) ?_
  refine sv_callV (pc := 5) (ψ := (ss_pi s)) (As := [.int x1, .int (0 : Int32), .int (19 : Int32)]) (rest := []) (c := 187) (sv_d k_Mo_isGood 4 rfl) g_Mo_in w1545 in_Mo_in se_Mo_in cf12 kd187 (ss_lt (by decide)) rfl (Nat.le_of_ble_eq_true rfl) (V_Mo_in E (d + 0) x1 (0 : Int32) (19 : Int32) s) (Nat.le_of_ble_eq_true rfl) rfl (fun r1 => ?_)
  show sv_V E _ _ _ 8 _ [.int r1] (ss_e s) _
  exact ss_grd (fun bb2 => sv_ret (pc := 8) (sv_d k_Mo_isGood 5 rfl) ⟨_, rfl, sv_bln bb2⟩ rfl)
/-! Mo_special -/
abbrev m_Mo_special : sv_M := (yX12_special, cX12_special, 7, (some .int))
def t_Mo_special : List (Nat × Instr × Nat) := [(0, .aload_n 0, 1), (1, .iload_n 1, 1), (2, .invokevirtual 255, 3), (5, .ifCond .eq 28, 3), (8, .aload_n 0, 1), (9, .iload_n 2, 1), (10, .invokevirtual 259, 3), (13, .ifCond .eq 20, 3), (16, .aload_n 0, 1), (17, .iload_n 3, 1), (18, .invokevirtual 259, 3), (21, .ifCond .eq 12, 3), (24, .aload_n 0, 1), (25, .iload 5, 2), (27, .invokevirtual 369, 3), (30, .ifCond .ne 5, 3), (33, .iconst (-1), 1), (34, .ireturn, 1), (35, .iload_n 2, 1), (36, .iload_n 3, 1), (37, .if_icmp .eq 28, 3), (40, .aload_n 0, 1), (41, .iload 4, 2), (43, .iconst 0, 1), (44, .sipush 9999, 3), (47, .invokevirtual 251, 3), (50, .ifCond .eq 15, 3), (53, .aload_n 0, 1), (54, .iload 6, 2), (56, .iconst 1, 1), (57, .bipush 99, 2), (59, .invokevirtual 251, 3), (62, .ifCond .ne 6, 3), (65, .bipush (-2), 2), (67, .ireturn, 1), (68, .aload_n 0, 1), (69, .getfield 109, 3), (72, .bipush 60, 2), (74, .if_icmp .ne 6, 3), (77, .bipush (-4), 2), (79, .ireturn, 1), (80, .aload_n 0, 1), (81, .iconst 2, 1), (82, .iload_n 1, 1), (83, .iload_n 2, 1), (84, .iload_n 3, 1), (85, .iload 4, 2), (87, .aload_n 0, 1), (88, .iload_n 1, 1), (89, .aload_n 0, 1), (90, .getfield 7, 3), (93, .invokevirtual 362, 3), (96, .iload 5, 2), (98, .iload 6, 2), (100, .iconst (-1), 1), (101, .invokevirtual 365, 3), (104, .ireturn, 1)]
theorem k_Mo_special : sv_tk m_Mo_special.2.1 t_Mo_special := by decide +kernel
theorem g_Mo_special : sv_G m_Mo_special 6 := ⟨by decide +kernel, sv_in 1697 (by decide +kernel) rfl, sv_in 103 (by decide +kernel) rfl, ⟨by decide, by decide⟩, by decide +kernel, by decide⟩
theorem in_Mo_special : Cond.instanceMethod m_Mo_special.1 ∈ sv_T := sv_in 1695 (by decide +kernel) rfl
theorem se_Mo_special : Cond.selects m_Mo_special.1.cls m_Mo_special.1 m_Mo_special.1 ∈ sv_T := sv_in 1696 (by decide +kernel) rfl
def F_Mo_special (x1 : Int32) (x2 : Int32) (x3 : Int32) (x4 : Int32) (x5 : Int32) (x6 : Int32) (s : sv_S) : Option (Int32 × sv_S) :=
  (F_Mo_isOwner x1 s).bind fun r1 =>
  if r1 = 0 then
    some ((-1 : Int32), s)
  else
  (F_Mo_isStation x2 s).bind fun r2 =>
  if r2 = 0 then
    some ((-1 : Int32), s)
  else
  (F_Mo_isStation x3 s).bind fun r3 =>
  if r3 = 0 then
    some ((-1 : Int32), s)
  else
  (F_Mo_isGood x5 s).bind fun r4 =>
  if r4 = 0 then
    some ((-1 : Int32), s)
  else
  if x2 = x3 then
    some ((-2 : Int32), s)
  else
  (F_Mo_in x4 (0 : Int32) (9999 : Int32) s).bind fun r5 =>
  if r5 = 0 then
    some ((-2 : Int32), s)
  else
  (F_Mo_in x6 (1 : Int32) (99 : Int32) s).bind fun r6 =>
  if r6 = 0 then
    some ((-2 : Int32), s)
  else
  if (s.1 187 32) = (60 : Int32) then
    some ((-4 : Int32), s)
  else
  (F_Mo_printed x1 (s.1 187 0) s).bind fun r7 =>
  (F_Mo_add (2 : Int32) x1 x2 x3 x4 r7.1 x5 x6 (-1 : Int32) r7.2).bind fun r8 =>
  some (r8.1, r8.2)
theorem V_Mo_special (E : sv_E) (d : Nat) (x1 : Int32) (x2 : Int32) (x3 : Int32) (x4 : Int32) (x5 : Int32) (x6 : Int32) (s : sv_S) : sv_V E m_Mo_special (d + 9) ss_i 0 (lv_args 0 [sv_r E 187, .int x1, .int x2, .int x3, .int x4, .int x5, .int x6]) [] (ss_e s) (F_Mo_special x1 x2 x3 x4 x5 x6 s) := by
  show sv_V E m_Mo_special (d + 9) ss_i 0 [(0, sv_r E 187), (1, .int x1), (2, .int x2), (3, .int x3), (4, .int x4), (5, .int x5), (6, .int x6)] [] (ss_e s) _
  unfold F_Mo_special
  refine sv_aload_n (pc := 0) 0 (sv_d k_Mo_special 0 rfl) rfl rfl ?_
  refine sv_iload_n (pc := 1) 1 (sv_d k_Mo_special 1 rfl) rfl rfl ?_
  refine sv_callV (pc := 2) (ψ := (ss_pi s)) (As := [.int x1]) (rest := []) (c := 187) (sv_d k_Mo_special 2 rfl) g_Mo_isOwner w1553 in_Mo_isOwner se_Mo_isOwner cf12 kd187 (ss_lt (by decide)) rfl (Nat.le_of_ble_eq_true rfl) (V_Mo_isOwner E (d + 7) x1 s) (Nat.le_of_ble_eq_true rfl) rfl (fun r1 => ?_)
  show sv_V E _ _ _ 5 _ [.int r1] (ss_e s) _
  refine sv_if_eq (pc := 5) (tgt := 33) (sv_d k_Mo_special 3 rfl) (by decide) ?_ ?_
  · refine sv_iconst (pc := 33) (v := (-1 : Int32)) (sv_d k_Mo_special 16 rfl) (by decide) ?_
    exact sv_ret (pc := 34) (sv_d k_Mo_special 17 rfl) ⟨_, rfl, rfl⟩ rfl
  · refine sv_aload_n (pc := 8) 0 (sv_d k_Mo_special 4 rfl) rfl rfl ?_
    refine sv_iload_n (pc := 9) 2 (sv_d k_Mo_special 5 rfl) rfl rfl ?_
    refine sv_callV (pc := 10) (ψ := (ss_pi s)) (As := [.int x2]) (rest := []) (c := 187) (sv_d k_Mo_special 6 rfl) g_Mo_isStation w1557 in_Mo_isStation se_Mo_isStation cf12 kd187 (ss_lt (by decide)) rfl (Nat.le_of_ble_eq_true rfl) (V_Mo_isStation E (d + 7) x2 s) (Nat.le_of_ble_eq_true rfl) rfl (fun r2 => ?_)
    show sv_V E _ _ _ 13 _ [.int r2] (ss_e s) _
    refine sv_if_eq (pc := 13) (tgt := 33) (sv_d k_Mo_special 7 rfl) (by decide) ?_ ?_
    · refine sv_iconst (pc := 33) (v := (-1 : Int32)) (sv_d k_Mo_special 16 rfl) (by decide) ?_
      exact sv_ret (pc := 34) (sv_d k_Mo_special 17 rfl) ⟨_, rfl, rfl⟩ rfl
    · refine sv_aload_n (pc := 16) 0 (sv_d k_Mo_special 8 rfl) rfl rfl ?_
      refine sv_iload_n (pc := 17) 3 (sv_d k_Mo_special 9 rfl) rfl rfl ?_
      refine sv_callV (pc := 18) (ψ := (ss_pi s)) (As := [.int x3]) (rest := []) (c := 187) (sv_d k_Mo_special 10 rfl) g_Mo_isStation w1557 in_Mo_isStation se_Mo_isStation cf12 kd187 (ss_lt (by decide)) rfl (Nat.le_of_ble_eq_true rfl) (V_Mo_isStation E (d + 7) x3 s) (Nat.le_of_ble_eq_true rfl) rfl (fun r3 => ?_)
      show sv_V E _ _ _ 21 _ [.int r3] (ss_e s) _
      refine sv_if_eq (pc := 21) (tgt := 33) (sv_d k_Mo_special 11 rfl) (by decide) ?_ ?_
      · refine sv_iconst (pc := 33) (v := (-1 : Int32)) (sv_d k_Mo_special 16 rfl) (by decide) ?_
        exact sv_ret (pc := 34) (sv_d k_Mo_special 17 rfl) ⟨_, rfl, rfl⟩ rfl
      · refine sv_aload_n (pc := 24) 0 (sv_d k_Mo_special 12 rfl) rfl rfl ?_
        refine sv_iload (pc := 25) 5 (sv_d k_Mo_special 13 rfl) rfl ?_
        refine sv_callV (pc := 27) (ψ := (ss_pi s)) (As := [.int x5]) (rest := []) (c := 187) (sv_d k_Mo_special 14 rfl) g_Mo_isGood w1698 in_Mo_isGood se_Mo_isGood cf12 kd187 (ss_lt (by decide)) rfl (Nat.le_of_ble_eq_true rfl) (V_Mo_isGood E (d + 7) x5 s) (Nat.le_of_ble_eq_true rfl) rfl (fun r4 => ?_)
        show sv_V E _ _ _ 30 _ [.int r4] (ss_e s) _
        refine sv_if_ne (pc := 30) (tgt := 35) (sv_d k_Mo_special 15 rfl) (by decide) ?_ ?_
        · refine sv_iload_n (pc := 35) 2 (sv_d k_Mo_special 18 rfl) rfl rfl ?_
          refine sv_iload_n (pc := 36) 3 (sv_d k_Mo_special 19 rfl) rfl rfl ?_
          refine sv_icmp_eq (pc := 37) (tgt := 65) (sv_d k_Mo_special 20 rfl) (by decide) ?_ ?_
          · refine sv_bipush (pc := 65) (v := (-2 : Int32)) (sv_d k_Mo_special 33 rfl) (by decide) ?_
            exact sv_ret (pc := 67) (sv_d k_Mo_special 34 rfl) ⟨_, rfl, rfl⟩ rfl
          · refine sv_aload_n (pc := 40) 0 (sv_d k_Mo_special 21 rfl) rfl rfl ?_
            refine sv_iload (pc := 41) 4 (sv_d k_Mo_special 22 rfl) rfl ?_
            refine sv_iconst (pc := 43) (v := (0 : Int32)) (sv_d k_Mo_special 23 rfl) (by decide) ?_
            refine sv_sipush (pc := 44) (v := (9999 : Int32)) (sv_d k_Mo_special 24 rfl) (by decide) ?_
            refine sv_callV (pc := 47) (ψ := (ss_pi s)) (As := [.int x4, .int (0 : Int32), .int (9999 : Int32)]) (rest := []) (c := 187) (sv_d k_Mo_special 25 rfl) g_Mo_in w1545 in_Mo_in se_Mo_in cf12 kd187 (ss_lt (by decide)) rfl (Nat.le_of_ble_eq_true rfl) (V_Mo_in E (d + 8) x4 (0 : Int32) (9999 : Int32) s) (Nat.le_of_ble_eq_true rfl) rfl (fun r5 => ?_)
            show sv_V E _ _ _ 50 _ [.int r5] (ss_e s) _
            refine sv_if_eq (pc := 50) (tgt := 65) (sv_d k_Mo_special 26 rfl) (by decide) ?_ ?_
            · refine sv_bipush (pc := 65) (v := (-2 : Int32)) (sv_d k_Mo_special 33 rfl) (by decide) ?_
              exact sv_ret (pc := 67) (sv_d k_Mo_special 34 rfl) ⟨_, rfl, rfl⟩ rfl
            · refine sv_aload_n (pc := 53) 0 (sv_d k_Mo_special 27 rfl) rfl rfl ?_
              refine sv_iload (pc := 54) 6 (sv_d k_Mo_special 28 rfl) rfl ?_
              refine sv_iconst (pc := 56) (v := (1 : Int32)) (sv_d k_Mo_special 29 rfl) (by decide) ?_
              refine sv_bipush (pc := 57) (v := (99 : Int32)) (sv_d k_Mo_special 30 rfl) (by decide) ?_
              refine sv_callV (pc := 59) (ψ := (ss_pi s)) (As := [.int x6, .int (1 : Int32), .int (99 : Int32)]) (rest := []) (c := 187) (sv_d k_Mo_special 31 rfl) g_Mo_in w1545 in_Mo_in se_Mo_in cf12 kd187 (ss_lt (by decide)) rfl (Nat.le_of_ble_eq_true rfl) (V_Mo_in E (d + 8) x6 (1 : Int32) (99 : Int32) s) (Nat.le_of_ble_eq_true rfl) rfl (fun r6 => ?_)
              show sv_V E _ _ _ 62 _ [.int r6] (ss_e s) _
              refine sv_if_ne (pc := 62) (tgt := 68) (sv_d k_Mo_special 32 rfl) (by decide) ?_ ?_
              · refine sv_aload_n (pc := 68) 0 (sv_d k_Mo_special 35 rfl) rfl rfl ?_
                refine sv_getf (pc := 69) 32 (sv_d k_Mo_special 36 rfl) cf12 (by decide) w1334 kd187 (ss_lt (by decide)) rfl ?_
                refine sv_bipush (pc := 72) (v := (60 : Int32)) (sv_d k_Mo_special 37 rfl) (by decide) ?_
                refine sv_icmp_ne (pc := 74) (tgt := 80) (sv_d k_Mo_special 38 rfl) (by decide) ?_ ?_
                · refine sv_aload_n (pc := 80) 0 (sv_d k_Mo_special 41 rfl) rfl rfl ?_
                  refine sv_iconst (pc := 81) (v := (2 : Int32)) (sv_d k_Mo_special 42 rfl) (by decide) ?_
                  refine sv_iload_n (pc := 82) 1 (sv_d k_Mo_special 43 rfl) rfl rfl ?_
                  refine sv_iload_n (pc := 83) 2 (sv_d k_Mo_special 44 rfl) rfl rfl ?_
                  refine sv_iload_n (pc := 84) 3 (sv_d k_Mo_special 45 rfl) rfl rfl ?_
                  refine sv_iload (pc := 85) 4 (sv_d k_Mo_special 46 rfl) rfl ?_
                  refine sv_aload_n (pc := 87) 0 (sv_d k_Mo_special 47 rfl) rfl rfl ?_
                  refine sv_iload_n (pc := 88) 1 (sv_d k_Mo_special 48 rfl) rfl rfl ?_
                  refine sv_aload_n (pc := 89) 0 (sv_d k_Mo_special 49 rfl) rfl rfl ?_
                  refine sv_getf (pc := 90) 0 (sv_d k_Mo_special 50 rfl) cf12 (by decide) w1302 kd187 (ss_lt (by decide)) rfl ?_
                  refine sv_callV (pc := 93) (ψ := ss_i) (As := [.int x1, .int (s.1 187 0)]) (rest := [.int x4, .int x3, .int x2, .int x1, .int (2 : Int32), sv_r E 187]) (c := 187) (sv_d k_Mo_special 51 rfl) g_Mo_printed w1686 in_Mo_printed se_Mo_printed cf12 kd187 (ss_lt (by decide)) rfl (Nat.le_of_ble_eq_true rfl) (V_Mo_printed E (d + 0) x1 (s.1 187 0) s) (Nat.le_of_ble_eq_true rfl) rfl (fun r7 => ?_)
                  show sv_V E _ _ _ 96 _ [.int r7.1, .int x4, .int x3, .int x2, .int x1, .int (2 : Int32), sv_r E 187] (ss_e r7.2) _
                  refine sv_iload (pc := 96) 5 (sv_d k_Mo_special 52 rfl) rfl ?_
                  refine sv_iload (pc := 98) 6 (sv_d k_Mo_special 53 rfl) rfl ?_
                  refine sv_iconst (pc := 100) (v := (-1 : Int32)) (sv_d k_Mo_special 54 rfl) (by decide) ?_
                  refine sv_callV (pc := 101) (ψ := ss_i) (As := [.int (2 : Int32), .int x1, .int x2, .int x3, .int x4, .int r7.1, .int x5, .int x6, .int (-1 : Int32)]) (rest := []) (c := 187) (sv_d k_Mo_special 55 rfl) g_Mo_add w1690 in_Mo_add se_Mo_add cf12 kd187 (ss_lt (by decide)) rfl (Nat.le_of_ble_eq_true rfl) (V_Mo_add E (d + 8) (2 : Int32) x1 x2 x3 x4 r7.1 x5 x6 (-1 : Int32) r7.2) (Nat.le_of_ble_eq_true rfl) rfl (fun r8 => ?_)
                  show sv_V E _ _ _ 104 _ [.int r8.1] (ss_e r8.2) _
                  exact sv_ret (pc := 104) (sv_d k_Mo_special 56 rfl) ⟨_, rfl, rfl⟩ rfl
                · refine sv_bipush (pc := 77) (v := (-4 : Int32)) (sv_d k_Mo_special 39 rfl) (by decide) ?_
                  exact sv_ret (pc := 79) (sv_d k_Mo_special 40 rfl) ⟨_, rfl, rfl⟩ rfl
              · refine sv_bipush (pc := 65) (v := (-2 : Int32)) (sv_d k_Mo_special 33 rfl) (by decide) ?_
                exact sv_ret (pc := 67) (sv_d k_Mo_special 34 rfl) ⟨_, rfl, rfl⟩ rfl
        · refine sv_iconst (pc := 33) (v := (-1 : Int32)) (sv_d k_Mo_special 16 rfl) (by decide) ?_
          exact sv_ret (pc := 34) (sv_d k_Mo_special 17 rfl) ⟨_, rfl, rfl⟩ rfl
/-! Mo_isRate -/
abbrev m_Mo_isRate : sv_M := (yX12_isRate, cX12_isRate, 2, (some .boolean))
def t_Mo_isRate : List (Nat × Instr × Nat) := [(0, .aload_n 0, 1), (1, .iload_n 1, 1), (2, .iconst 0, 1), (3, .aload_n 0, 1), (4, .getfield 109, 3), (7, .iconst 1, 1), (8, .isub, 1), (9, .invokevirtual 251, 3), (12, .ireturn, 1)]
theorem k_Mo_isRate : sv_tk m_Mo_isRate.2.1 t_Mo_isRate := by decide +kernel
theorem g_Mo_isRate : sv_G m_Mo_isRate 1 := ⟨by decide +kernel, sv_in 1709 (by decide +kernel) rfl, sv_in 103 (by decide +kernel) rfl, ⟨by decide, by decide⟩, by decide +kernel, by decide⟩
theorem in_Mo_isRate : Cond.instanceMethod m_Mo_isRate.1 ∈ sv_T := sv_in 1708 (by decide +kernel) rfl
theorem se_Mo_isRate : Cond.selects m_Mo_isRate.1.cls m_Mo_isRate.1 m_Mo_isRate.1 ∈ sv_T := sv_in 62 (by decide +kernel) rfl
def F_Mo_isRate (x1 : Int32) (s : sv_S) : Option (Int32) :=
  (F_Mo_in x1 (0 : Int32) ((s.1 187 32) - (1 : Int32)) s).bind fun r1 =>
  if sv_bl r1 = true then some r1 else none
theorem V_Mo_isRate (E : sv_E) (d : Nat) (x1 : Int32) (s : sv_S) : sv_V E m_Mo_isRate (d + 1) (ss_pi s) 0 (lv_args 0 [sv_r E 187, .int x1]) [] (ss_e s) (F_Mo_isRate x1 s) := by
  show sv_V E m_Mo_isRate (d + 1) (ss_pi s) 0 [(0, sv_r E 187), (1, .int x1)] [] (ss_e s) _
  unfold F_Mo_isRate
  refine sv_aload_n (pc := 0) 0 (sv_d k_Mo_isRate 0 rfl) rfl rfl ?_
  refine sv_iload_n (pc := 1) 1 (sv_d k_Mo_isRate 1 rfl) rfl rfl ?_
  refine sv_iconst (pc := 2) (v := (0 : Int32)) (sv_d k_Mo_isRate 2 rfl) (by decide) ?_
  refine sv_aload_n (pc := 3) 0 (sv_d k_Mo_isRate 3 rfl) rfl rfl ?_
  refine sv_getf (pc := 4) 32 (sv_d k_Mo_isRate 4 rfl) cf12 (by decide) w1334 kd187 (ss_lt (by decide)) rfl ?_
  refine sv_iconst (pc := 7) (v := (1 : Int32)) (sv_d k_Mo_isRate 5 rfl) (by decide) ?_
  refine sv_isub (pc := 8) (sv_d k_Mo_isRate 6 rfl) ?_
  refine sv_callV (pc := 9) (ψ := (ss_pi s)) (As := [.int x1, .int (0 : Int32), .int ((s.1 187 32) - (1 : Int32))]) (rest := []) (c := 187) (sv_d k_Mo_isRate 7 rfl) g_Mo_in w1545 in_Mo_in se_Mo_in cf12 kd187 (ss_lt (by decide)) rfl (Nat.le_of_ble_eq_true rfl) (V_Mo_in E (d + 0) x1 (0 : Int32) ((s.1 187 32) - (1 : Int32)) s) (Nat.le_of_ble_eq_true rfl) rfl (fun r1 => ?_)
  show sv_V E _ _ _ 12 _ [.int r1] (ss_e s) _
  exact ss_grd (fun bb2 => sv_ret (pc := 12) (sv_d k_Mo_isRate 8 rfl) ⟨_, rfl, sv_bln bb2⟩ rfl)
/-! Mo_nowKind -/
abbrev m_Mo_nowKind : sv_M := (yX12_nowKind, cX12_nowKind, 2, (some .int))
def t_Mo_nowKind : List (Nat × Instr × Nat) := [(0, .aload_n 0, 1), (1, .getfield 133, 3), (4, .iload_n 1, 1), (5, .iaload, 1), (6, .ifCond .lt 8, 3), (9, .bipush 6, 2), (11, .goto 9, 3), (14, .aload_n 0, 1), (15, .getfield 112, 3), (18, .iload_n 1, 1), (19, .iaload, 1), (20, .ireturn, 1)]
theorem k_Mo_nowKind : sv_tk m_Mo_nowKind.2.1 t_Mo_nowKind := by decide +kernel
theorem g_Mo_nowKind : sv_G m_Mo_nowKind 1 := ⟨by decide +kernel, sv_in 1713 (by decide +kernel) rfl, sv_in 103 (by decide +kernel) rfl, ⟨by decide, by decide⟩, by decide +kernel, by decide⟩
theorem in_Mo_nowKind : Cond.instanceMethod m_Mo_nowKind.1 ∈ sv_T := sv_in 1712 (by decide +kernel) rfl
theorem se_Mo_nowKind : Cond.selects m_Mo_nowKind.1.cls m_Mo_nowKind.1 m_Mo_nowKind.1 ∈ sv_T := sv_in 63 (by decide +kernel) rfl
def F_Mo_nowKind (x1 : Int32) (s : sv_S) : Option (Int32) :=
  if sv_ib x1 60 = true then
    if (s.1 212 x1.toNatClampNeg) < 0 then
      if sv_ib x1 60 = true then
        some (s.1 205 x1.toNatClampNeg)
      else none
    else
    some (6 : Int32)
  else none
theorem V_Mo_nowKind (E : sv_E) (d : Nat) (x1 : Int32) (s : sv_S) : sv_V E m_Mo_nowKind (d + 0) (ss_pi s) 0 (lv_args 0 [sv_r E 187, .int x1]) [] (ss_e s) (F_Mo_nowKind x1 s) := by
  show sv_V E m_Mo_nowKind (d + 0) (ss_pi s) 0 [(0, sv_r E 187), (1, .int x1)] [] (ss_e s) _
  unfold F_Mo_nowKind
  refine sv_aload_n (pc := 0) 0 (sv_d k_Mo_nowKind 0 rfl) rfl rfl ?_
  refine sv_getf (pc := 1) 40 (sv_d k_Mo_nowKind 1 rfl) cf12 (by decide) w1342 kd187 (ss_lt (by decide)) (lr_187_40 E _) ?_
  refine sv_iload_n (pc := 4) 1 (sv_d k_Mo_nowKind 2 rfl) rfl rfl ?_
  refine ss_iald (pc := 5) (n := 60) (sv_d k_Mo_nowKind 3 rfl) kd212 (ss_lt (by decide)) rfl ?_
  refine sv_if_lt (pc := 6) (tgt := 14) (sv_d k_Mo_nowKind 4 rfl) (by decide) ?_ ?_
  · refine sv_aload_n (pc := 14) 0 (sv_d k_Mo_nowKind 7 rfl) rfl rfl ?_
    refine sv_getf (pc := 15) 33 (sv_d k_Mo_nowKind 8 rfl) cf12 (by decide) w1335 kd187 (ss_lt (by decide)) (lr_187_33 E _) ?_
    refine sv_iload_n (pc := 18) 1 (sv_d k_Mo_nowKind 9 rfl) rfl rfl ?_
    refine ss_iald (pc := 19) (n := 60) (sv_d k_Mo_nowKind 10 rfl) kd205 (ss_lt (by decide)) rfl ?_
    exact sv_ret (pc := 20) (sv_d k_Mo_nowKind 11 rfl) ⟨_, rfl, rfl⟩ rfl
  · refine sv_bipush (pc := 9) (v := (6 : Int32)) (sv_d k_Mo_nowKind 5 rfl) (by decide) ?_
    refine sv_goto (pc := 11) (tgt := 20) (sv_d k_Mo_nowKind 6 rfl) (by decide) ?_
    exact sv_ret (pc := 20) (sv_d k_Mo_nowKind 11 rfl) ⟨_, rfl, rfl⟩ rfl
/-! Mo_withdraw -/
abbrev m_Mo_withdraw : sv_M := (yX12_withdraw, cX12_withdraw, 2, (some .int))
def t_Mo_withdraw : List (Nat × Instr × Nat) := [(0, .aload_n 0, 1), (1, .iload_n 1, 1), (2, .invokevirtual 372, 3), (5, .ifCond .ne 5, 3), (8, .iconst (-1), 1), (9, .ireturn, 1), (10, .aload_n 0, 1), (11, .iload_n 1, 1), (12, .invokevirtual 375, 3), (15, .bipush 6, 2), (17, .if_icmp .eq 13, 3), (20, .aload_n 0, 1), (21, .getfield 112, 3), (24, .iload_n 1, 1), (25, .iaload, 1), (26, .iconst 5, 1), (27, .if_icmp .ne 6, 3), (30, .bipush (-3), 2), (32, .ireturn, 1), (33, .aload_n 0, 1), (34, .getfield 133, 3), (37, .iload_n 1, 1), (38, .aload_n 0, 1), (39, .getfield 7, 3), (42, .iastore, 1), (43, .iconst 1, 1), (44, .ireturn, 1)]
theorem k_Mo_withdraw : sv_tk m_Mo_withdraw.2.1 t_Mo_withdraw := by decide +kernel
theorem g_Mo_withdraw : sv_G m_Mo_withdraw 1 := ⟨by decide +kernel, sv_in 1705 (by decide +kernel) rfl, sv_in 103 (by decide +kernel) rfl, ⟨by decide, by decide⟩, by decide +kernel, by decide⟩
theorem in_Mo_withdraw : Cond.instanceMethod m_Mo_withdraw.1 ∈ sv_T := sv_in 1703 (by decide +kernel) rfl
theorem se_Mo_withdraw : Cond.selects m_Mo_withdraw.1.cls m_Mo_withdraw.1 m_Mo_withdraw.1 ∈ sv_T := sv_in 1704 (by decide +kernel) rfl
def F_Mo_withdraw (x1 : Int32) (s : sv_S) : Option (Int32 × sv_S) :=
  (F_Mo_isRate x1 s).bind fun r1 =>
  if r1 = 0 then
    some ((-1 : Int32), s)
  else
  (F_Mo_nowKind x1 s).bind fun r2 =>
  if r2 = (6 : Int32) then
    some ((-3 : Int32), s)
  else
  if sv_ib x1 60 = true then
    if (s.1 205 x1.toNatClampNeg) = (5 : Int32) then
      some ((-3 : Int32), s)
    else
    if sv_ib x1 60 = true then
      ss_let (ss_setI s 212 x1.toNatClampNeg (s.1 187 0)) fun s3 =>
      some ((1 : Int32), s3)
    else none
  else none
theorem V_Mo_withdraw (E : sv_E) (d : Nat) (x1 : Int32) (s : sv_S) : sv_V E m_Mo_withdraw (d + 2) ss_i 0 (lv_args 0 [sv_r E 187, .int x1]) [] (ss_e s) (F_Mo_withdraw x1 s) := by
  show sv_V E m_Mo_withdraw (d + 2) ss_i 0 [(0, sv_r E 187), (1, .int x1)] [] (ss_e s) _
  unfold F_Mo_withdraw
  refine sv_aload_n (pc := 0) 0 (sv_d k_Mo_withdraw 0 rfl) rfl rfl ?_
  refine sv_iload_n (pc := 1) 1 (sv_d k_Mo_withdraw 1 rfl) rfl rfl ?_
  refine sv_callV (pc := 2) (ψ := (ss_pi s)) (As := [.int x1]) (rest := []) (c := 187) (sv_d k_Mo_withdraw 2 rfl) g_Mo_isRate w1706 in_Mo_isRate se_Mo_isRate cf12 kd187 (ss_lt (by decide)) rfl (Nat.le_of_ble_eq_true rfl) (V_Mo_isRate E (d + 0) x1 s) (Nat.le_of_ble_eq_true rfl) rfl (fun r1 => ?_)
  show sv_V E _ _ _ 5 _ [.int r1] (ss_e s) _
  refine sv_if_ne (pc := 5) (tgt := 10) (sv_d k_Mo_withdraw 3 rfl) (by decide) ?_ ?_
  · refine sv_aload_n (pc := 10) 0 (sv_d k_Mo_withdraw 6 rfl) rfl rfl ?_
    refine sv_iload_n (pc := 11) 1 (sv_d k_Mo_withdraw 7 rfl) rfl rfl ?_
    refine sv_callV (pc := 12) (ψ := (ss_pi s)) (As := [.int x1]) (rest := []) (c := 187) (sv_d k_Mo_withdraw 8 rfl) g_Mo_nowKind w1710 in_Mo_nowKind se_Mo_nowKind cf12 kd187 (ss_lt (by decide)) rfl (Nat.le_of_ble_eq_true rfl) (V_Mo_nowKind E (d + 1) x1 s) (Nat.le_of_ble_eq_true rfl) rfl (fun r2 => ?_)
    show sv_V E _ _ _ 15 _ [.int r2] (ss_e s) _
    refine sv_bipush (pc := 15) (v := (6 : Int32)) (sv_d k_Mo_withdraw 9 rfl) (by decide) ?_
    refine sv_icmp_eq (pc := 17) (tgt := 30) (sv_d k_Mo_withdraw 10 rfl) (by decide) ?_ ?_
    · refine sv_bipush (pc := 30) (v := (-3 : Int32)) (sv_d k_Mo_withdraw 17 rfl) (by decide) ?_
      exact sv_ret (pc := 32) (sv_d k_Mo_withdraw 18 rfl) ⟨_, rfl, rfl⟩ rfl
    · refine sv_aload_n (pc := 20) 0 (sv_d k_Mo_withdraw 11 rfl) rfl rfl ?_
      refine sv_getf (pc := 21) 33 (sv_d k_Mo_withdraw 12 rfl) cf12 (by decide) w1335 kd187 (ss_lt (by decide)) (lr_187_33 E _) ?_
      refine sv_iload_n (pc := 24) 1 (sv_d k_Mo_withdraw 13 rfl) rfl rfl ?_
      refine ss_iald (pc := 25) (n := 60) (sv_d k_Mo_withdraw 14 rfl) kd205 (ss_lt (by decide)) rfl ?_
      refine sv_iconst (pc := 26) (v := (5 : Int32)) (sv_d k_Mo_withdraw 15 rfl) (by decide) ?_
      refine sv_icmp_ne (pc := 27) (tgt := 33) (sv_d k_Mo_withdraw 16 rfl) (by decide) ?_ ?_
      · refine sv_aload_n (pc := 33) 0 (sv_d k_Mo_withdraw 19 rfl) rfl rfl ?_
        refine sv_getf (pc := 34) 40 (sv_d k_Mo_withdraw 20 rfl) cf12 (by decide) w1342 kd187 (ss_lt (by decide)) (lr_187_40 E _) ?_
        refine sv_iload_n (pc := 37) 1 (sv_d k_Mo_withdraw 21 rfl) rfl rfl ?_
        refine sv_aload_n (pc := 38) 0 (sv_d k_Mo_withdraw 22 rfl) rfl rfl ?_
        refine sv_getf (pc := 39) 0 (sv_d k_Mo_withdraw 23 rfl) cf12 (by decide) w1302 kd187 (ss_lt (by decide)) rfl ?_
        refine ss_iast (pc := 42) (n := 60) (sv_d k_Mo_withdraw 24 rfl) kd212 (by decide) (ss_lt (by decide)) rfl (ss_lets (fun s3 e_s3 => ?_))
        refine sv_iconst (pc := 43) (v := (1 : Int32)) (sv_d k_Mo_withdraw 25 rfl) (by decide) ?_
        exact sv_ret (pc := 44) (sv_d k_Mo_withdraw 26 rfl) ⟨_, rfl, rfl⟩ rfl
      · refine sv_bipush (pc := 30) (v := (-3 : Int32)) (sv_d k_Mo_withdraw 17 rfl) (by decide) ?_
        exact sv_ret (pc := 32) (sv_d k_Mo_withdraw 18 rfl) ⟨_, rfl, rfl⟩ rfl
  · refine sv_iconst (pc := 8) (v := (-1 : Int32)) (sv_d k_Mo_withdraw 4 rfl) (by decide) ?_
    exact sv_ret (pc := 9) (sv_d k_Mo_withdraw 5 rfl) ⟨_, rfl, rfl⟩ rfl
/-! Mo_set -/
abbrev m_Mo_set : sv_M := (yX12_set, cX12_set, 3, (some .int))
def t_Mo_set : List (Nat × Instr × Nat) := [(0, .aload_n 0, 1), (1, .iload_n 1, 1), (2, .invokevirtual 372, 3), (5, .ifCond .ne 5, 3), (8, .iconst (-1), 1), (9, .ireturn, 1), (10, .aload_n 0, 1), (11, .iload_n 2, 1), (12, .iconst 0, 1), (13, .sipush 9999, 3), (16, .invokevirtual 251, 3), (19, .ifCond .ne 6, 3), (22, .bipush (-2), 2), (24, .ireturn, 1), (25, .aload_n 0, 1), (26, .iload_n 1, 1), (27, .invokevirtual 375, 3), (30, .bipush 6, 2), (32, .if_icmp .eq 13, 3), (35, .aload_n 0, 1), (36, .getfield 112, 3), (39, .iload_n 1, 1), (40, .iaload, 1), (41, .iconst 5, 1), (42, .if_icmp .ne 6, 3), (45, .bipush (-3), 2), (47, .ireturn, 1), (48, .aload_n 0, 1), (49, .getfield 109, 3), (52, .bipush 60, 2), (54, .if_icmp .ne 6, 3), (57, .bipush (-4), 2), (59, .ireturn, 1), (60, .aload_n 0, 1), (61, .aload_n 0, 1), (62, .getfield 115, 3), (65, .iload_n 1, 1), (66, .iaload, 1), (67, .aload_n 0, 1), (68, .getfield 7, 3), (71, .invokevirtual 358, 3), (74, .aload_n 0, 1), (75, .getfield 133, 3), (78, .iload_n 1, 1), (79, .aload_n 0, 1), (80, .getfield 7, 3), (83, .iastore, 1), (84, .aload_n 0, 1), (85, .iconst 5, 1), (86, .aload_n 0, 1), (87, .getfield 115, 3), (90, .iload_n 1, 1), (91, .iaload, 1), (92, .aload_n 0, 1), (93, .getfield 118, 3), (96, .iload_n 1, 1), (97, .iaload, 1), (98, .aload_n 0, 1), (99, .getfield 121, 3), (102, .iload_n 1, 1), (103, .iaload, 1), (104, .iload_n 2, 1), (105, .aload_n 0, 1), (106, .getfield 7, 3), (109, .aload_n 0, 1), (110, .getfield 112, 3), (113, .iload_n 1, 1), (114, .iaload, 1), (115, .iconst 2, 1), (116, .if_icmp .ne 17, 3), (119, .aload_n 0, 1), (120, .getfield 59, 3), (123, .aload_n 0, 1), (124, .getfield 127, 3), (127, .iload_n 1, 1), (128, .iaload, 1), (129, .iaload, 1), (130, .goto 9, 3), (133, .aload_n 0, 1), (134, .getfield 127, 3), (137, .iload_n 1, 1), (138, .iaload, 1), (139, .iconst 1, 1), (140, .iload_n 1, 1), (141, .invokevirtual 365, 3), (144, .ireturn, 1)]
theorem k_Mo_set : sv_tk m_Mo_set.2.1 t_Mo_set := by decide +kernel
theorem g_Mo_set : sv_G m_Mo_set 2 := ⟨by decide +kernel, sv_in 1717 (by decide +kernel) rfl, sv_in 103 (by decide +kernel) rfl, ⟨by decide, by decide⟩, by decide +kernel, by decide⟩
theorem in_Mo_set : Cond.instanceMethod m_Mo_set.1 ∈ sv_T := sv_in 1715 (by decide +kernel) rfl
theorem se_Mo_set : Cond.selects m_Mo_set.1.cls m_Mo_set.1 m_Mo_set.1 ∈ sv_T := sv_in 1716 (by decide +kernel) rfl
def F_Mo_set (x1 : Int32) (x2 : Int32) (s : sv_S) : Option (Int32 × sv_S) :=
  (F_Mo_isRate x1 s).bind fun r1 =>
  if r1 = 0 then
    some ((-1 : Int32), s)
  else
  (F_Mo_in x2 (0 : Int32) (9999 : Int32) s).bind fun r2 =>
  if r2 = 0 then
    some ((-2 : Int32), s)
  else
  (F_Mo_nowKind x1 s).bind fun r3 =>
  if r3 = (6 : Int32) then
    some ((-3 : Int32), s)
  else
  if sv_ib x1 60 = true then
    if (s.1 205 x1.toNatClampNeg) = (5 : Int32) then
      some ((-3 : Int32), s)
    else
    if (s.1 187 32) = (60 : Int32) then
      some ((-4 : Int32), s)
    else
    if sv_ib x1 60 = true then
      (F_Mo_look (s.1 206 x1.toNatClampNeg) (s.1 187 0) s).bind fun r4 =>
      if sv_ib x1 60 = true then
        ss_let (ss_setI r4 212 x1.toNatClampNeg (r4.1 187 0)) fun s5 =>
        if sv_ib x1 60 = true then
          if sv_ib x1 60 = true then
            if sv_ib x1 60 = true then
              if sv_ib x1 60 = true then
                if (s5.1 205 x1.toNatClampNeg) = (2 : Int32) then
                  if sv_ib x1 60 = true then
                    if sv_ib (s5.1 210 x1.toNatClampNeg) 20 = true then
                      (F_Mo_add (5 : Int32) (s5.1 206 x1.toNatClampNeg) (s5.1 207 x1.toNatClampNeg) (s5.1 208 x1.toNatClampNeg) x2 (s5.1 187 0) (s5.1 199 (s5.1 210 x1.toNatClampNeg).toNatClampNeg) (1 : Int32) x1 s5).bind fun r7 =>
                      some (r7.1, r7.2)
                    else none
                  else none
                else
                if sv_ib x1 60 = true then
                  (F_Mo_add (5 : Int32) (s5.1 206 x1.toNatClampNeg) (s5.1 207 x1.toNatClampNeg) (s5.1 208 x1.toNatClampNeg) x2 (s5.1 187 0) (s5.1 210 x1.toNatClampNeg) (1 : Int32) x1 s5).bind fun r6 =>
                  some (r6.1, r6.2)
                else none
              else none
            else none
          else none
        else none
      else none
    else none
  else none
theorem V_Mo_set (E : sv_E) (d : Nat) (x1 : Int32) (x2 : Int32) (s : sv_S) : sv_V E m_Mo_set (d + 8) ss_i 0 (lv_args 0 [sv_r E 187, .int x1, .int x2]) [] (ss_e s) (F_Mo_set x1 x2 s) := by
  show sv_V E m_Mo_set (d + 8) ss_i 0 [(0, sv_r E 187), (1, .int x1), (2, .int x2)] [] (ss_e s) _
  unfold F_Mo_set
  refine sv_aload_n (pc := 0) 0 (sv_d k_Mo_set 0 rfl) rfl rfl ?_
  refine sv_iload_n (pc := 1) 1 (sv_d k_Mo_set 1 rfl) rfl rfl ?_
  refine sv_callV (pc := 2) (ψ := (ss_pi s)) (As := [.int x1]) (rest := []) (c := 187) (sv_d k_Mo_set 2 rfl) g_Mo_isRate w1706 in_Mo_isRate se_Mo_isRate cf12 kd187 (ss_lt (by decide)) rfl (Nat.le_of_ble_eq_true rfl) (V_Mo_isRate E (d + 6) x1 s) (Nat.le_of_ble_eq_true rfl) rfl (fun r1 => ?_)
  show sv_V E _ _ _ 5 _ [.int r1] (ss_e s) _
  refine sv_if_ne (pc := 5) (tgt := 10) (sv_d k_Mo_set 3 rfl) (by decide) ?_ ?_
  · refine sv_aload_n (pc := 10) 0 (sv_d k_Mo_set 6 rfl) rfl rfl ?_
    refine sv_iload_n (pc := 11) 2 (sv_d k_Mo_set 7 rfl) rfl rfl ?_
    refine sv_iconst (pc := 12) (v := (0 : Int32)) (sv_d k_Mo_set 8 rfl) (by decide) ?_
    refine sv_sipush (pc := 13) (v := (9999 : Int32)) (sv_d k_Mo_set 9 rfl) (by decide) ?_
    refine sv_callV (pc := 16) (ψ := (ss_pi s)) (As := [.int x2, .int (0 : Int32), .int (9999 : Int32)]) (rest := []) (c := 187) (sv_d k_Mo_set 10 rfl) g_Mo_in w1545 in_Mo_in se_Mo_in cf12 kd187 (ss_lt (by decide)) rfl (Nat.le_of_ble_eq_true rfl) (V_Mo_in E (d + 7) x2 (0 : Int32) (9999 : Int32) s) (Nat.le_of_ble_eq_true rfl) rfl (fun r2 => ?_)
    show sv_V E _ _ _ 19 _ [.int r2] (ss_e s) _
    refine sv_if_ne (pc := 19) (tgt := 25) (sv_d k_Mo_set 11 rfl) (by decide) ?_ ?_
    · refine sv_aload_n (pc := 25) 0 (sv_d k_Mo_set 14 rfl) rfl rfl ?_
      refine sv_iload_n (pc := 26) 1 (sv_d k_Mo_set 15 rfl) rfl rfl ?_
      refine sv_callV (pc := 27) (ψ := (ss_pi s)) (As := [.int x1]) (rest := []) (c := 187) (sv_d k_Mo_set 16 rfl) g_Mo_nowKind w1710 in_Mo_nowKind se_Mo_nowKind cf12 kd187 (ss_lt (by decide)) rfl (Nat.le_of_ble_eq_true rfl) (V_Mo_nowKind E (d + 7) x1 s) (Nat.le_of_ble_eq_true rfl) rfl (fun r3 => ?_)
      show sv_V E _ _ _ 30 _ [.int r3] (ss_e s) _
      refine sv_bipush (pc := 30) (v := (6 : Int32)) (sv_d k_Mo_set 17 rfl) (by decide) ?_
      refine sv_icmp_eq (pc := 32) (tgt := 45) (sv_d k_Mo_set 18 rfl) (by decide) ?_ ?_
      · refine sv_bipush (pc := 45) (v := (-3 : Int32)) (sv_d k_Mo_set 25 rfl) (by decide) ?_
        exact sv_ret (pc := 47) (sv_d k_Mo_set 26 rfl) ⟨_, rfl, rfl⟩ rfl
      · refine sv_aload_n (pc := 35) 0 (sv_d k_Mo_set 19 rfl) rfl rfl ?_
        refine sv_getf (pc := 36) 33 (sv_d k_Mo_set 20 rfl) cf12 (by decide) w1335 kd187 (ss_lt (by decide)) (lr_187_33 E _) ?_
        refine sv_iload_n (pc := 39) 1 (sv_d k_Mo_set 21 rfl) rfl rfl ?_
        refine ss_iald (pc := 40) (n := 60) (sv_d k_Mo_set 22 rfl) kd205 (ss_lt (by decide)) rfl ?_
        refine sv_iconst (pc := 41) (v := (5 : Int32)) (sv_d k_Mo_set 23 rfl) (by decide) ?_
        refine sv_icmp_ne (pc := 42) (tgt := 48) (sv_d k_Mo_set 24 rfl) (by decide) ?_ ?_
        · refine sv_aload_n (pc := 48) 0 (sv_d k_Mo_set 27 rfl) rfl rfl ?_
          refine sv_getf (pc := 49) 32 (sv_d k_Mo_set 28 rfl) cf12 (by decide) w1334 kd187 (ss_lt (by decide)) rfl ?_
          refine sv_bipush (pc := 52) (v := (60 : Int32)) (sv_d k_Mo_set 29 rfl) (by decide) ?_
          refine sv_icmp_ne (pc := 54) (tgt := 60) (sv_d k_Mo_set 30 rfl) (by decide) ?_ ?_
          · refine sv_aload_n (pc := 60) 0 (sv_d k_Mo_set 33 rfl) rfl rfl ?_
            refine sv_aload_n (pc := 61) 0 (sv_d k_Mo_set 34 rfl) rfl rfl ?_
            refine sv_getf (pc := 62) 34 (sv_d k_Mo_set 35 rfl) cf12 (by decide) w1336 kd187 (ss_lt (by decide)) (lr_187_34 E _) ?_
            refine sv_iload_n (pc := 65) 1 (sv_d k_Mo_set 36 rfl) rfl rfl ?_
            refine ss_iald (pc := 66) (n := 60) (sv_d k_Mo_set 37 rfl) kd206 (ss_lt (by decide)) rfl ?_
            refine sv_aload_n (pc := 67) 0 (sv_d k_Mo_set 38 rfl) rfl rfl ?_
            refine sv_getf (pc := 68) 0 (sv_d k_Mo_set 39 rfl) cf12 (by decide) w1302 kd187 (ss_lt (by decide)) rfl ?_
            refine sv_callV (pc := 71) (ψ := ss_v) (As := [.int (s.1 206 x1.toNatClampNeg), .int (s.1 187 0)]) (rest := []) (c := 187) (sv_d k_Mo_set 40 rfl) g_Mo_look w1670 in_Mo_look se_Mo_look cf12 kd187 (ss_lt (by decide)) rfl (Nat.le_of_ble_eq_true rfl) (V_Mo_look E (d + 0) (s.1 206 x1.toNatClampNeg) (s.1 187 0) s) (Nat.le_of_ble_eq_true rfl) rfl (fun r4 => ?_)
            show sv_V E _ _ _ 74 _ [] (ss_e r4) _
            refine sv_aload_n (pc := 74) 0 (sv_d k_Mo_set 41 rfl) rfl rfl ?_
            refine sv_getf (pc := 75) 40 (sv_d k_Mo_set 42 rfl) cf12 (by decide) w1342 kd187 (ss_lt (by decide)) (lr_187_40 E _) ?_
            refine sv_iload_n (pc := 78) 1 (sv_d k_Mo_set 43 rfl) rfl rfl ?_
            refine sv_aload_n (pc := 79) 0 (sv_d k_Mo_set 44 rfl) rfl rfl ?_
            refine sv_getf (pc := 80) 0 (sv_d k_Mo_set 45 rfl) cf12 (by decide) w1302 kd187 (ss_lt (by decide)) rfl ?_
            refine ss_iast (pc := 83) (n := 60) (sv_d k_Mo_set 46 rfl) kd212 (by decide) (ss_lt (by decide)) rfl (ss_lets (fun s5 e_s5 => ?_))
            refine sv_aload_n (pc := 84) 0 (sv_d k_Mo_set 47 rfl) rfl rfl ?_
            refine sv_iconst (pc := 85) (v := (5 : Int32)) (sv_d k_Mo_set 48 rfl) (by decide) ?_
            refine sv_aload_n (pc := 86) 0 (sv_d k_Mo_set 49 rfl) rfl rfl ?_
            refine sv_getf (pc := 87) 34 (sv_d k_Mo_set 50 rfl) cf12 (by decide) w1336 kd187 (ss_lt (by decide)) (lr_187_34 E _) ?_
            refine sv_iload_n (pc := 90) 1 (sv_d k_Mo_set 51 rfl) rfl rfl ?_
            refine ss_iald (pc := 91) (n := 60) (sv_d k_Mo_set 52 rfl) kd206 (ss_lt (by decide)) rfl ?_
            refine sv_aload_n (pc := 92) 0 (sv_d k_Mo_set 53 rfl) rfl rfl ?_
            refine sv_getf (pc := 93) 35 (sv_d k_Mo_set 54 rfl) cf12 (by decide) w1337 kd187 (ss_lt (by decide)) (lr_187_35 E _) ?_
            refine sv_iload_n (pc := 96) 1 (sv_d k_Mo_set 55 rfl) rfl rfl ?_
            refine ss_iald (pc := 97) (n := 60) (sv_d k_Mo_set 56 rfl) kd207 (ss_lt (by decide)) rfl ?_
            refine sv_aload_n (pc := 98) 0 (sv_d k_Mo_set 57 rfl) rfl rfl ?_
            refine sv_getf (pc := 99) 36 (sv_d k_Mo_set 58 rfl) cf12 (by decide) w1338 kd187 (ss_lt (by decide)) (lr_187_36 E _) ?_
            refine sv_iload_n (pc := 102) 1 (sv_d k_Mo_set 59 rfl) rfl rfl ?_
            refine ss_iald (pc := 103) (n := 60) (sv_d k_Mo_set 60 rfl) kd208 (ss_lt (by decide)) rfl ?_
            refine sv_iload_n (pc := 104) 2 (sv_d k_Mo_set 61 rfl) rfl rfl ?_
            refine sv_aload_n (pc := 105) 0 (sv_d k_Mo_set 62 rfl) rfl rfl ?_
            refine sv_getf (pc := 106) 0 (sv_d k_Mo_set 63 rfl) cf12 (by decide) w1302 kd187 (ss_lt (by decide)) rfl ?_
            refine sv_aload_n (pc := 109) 0 (sv_d k_Mo_set 64 rfl) rfl rfl ?_
            refine sv_getf (pc := 110) 33 (sv_d k_Mo_set 65 rfl) cf12 (by decide) w1335 kd187 (ss_lt (by decide)) (lr_187_33 E _) ?_
            refine sv_iload_n (pc := 113) 1 (sv_d k_Mo_set 66 rfl) rfl rfl ?_
            refine ss_iald (pc := 114) (n := 60) (sv_d k_Mo_set 67 rfl) kd205 (ss_lt (by decide)) rfl ?_
            refine sv_iconst (pc := 115) (v := (2 : Int32)) (sv_d k_Mo_set 68 rfl) (by decide) ?_
            refine sv_icmp_ne (pc := 116) (tgt := 133) (sv_d k_Mo_set 69 rfl) (by decide) ?_ ?_
            · refine sv_aload_n (pc := 133) 0 (sv_d k_Mo_set 78 rfl) rfl rfl ?_
              refine sv_getf (pc := 134) 38 (sv_d k_Mo_set 79 rfl) cf12 (by decide) w1340 kd187 (ss_lt (by decide)) (lr_187_38 E _) ?_
              refine sv_iload_n (pc := 137) 1 (sv_d k_Mo_set 80 rfl) rfl rfl ?_
              refine ss_iald (pc := 138) (n := 60) (sv_d k_Mo_set 81 rfl) kd210 (ss_lt (by decide)) rfl ?_
              refine sv_iconst (pc := 139) (v := (1 : Int32)) (sv_d k_Mo_set 82 rfl) (by decide) ?_
              refine sv_iload_n (pc := 140) 1 (sv_d k_Mo_set 83 rfl) rfl rfl ?_
              refine sv_callV (pc := 141) (ψ := ss_i) (As := [.int (5 : Int32), .int (s5.1 206 x1.toNatClampNeg), .int (s5.1 207 x1.toNatClampNeg), .int (s5.1 208 x1.toNatClampNeg), .int x2, .int (s5.1 187 0), .int (s5.1 210 x1.toNatClampNeg), .int (1 : Int32), .int x1]) (rest := []) (c := 187) (sv_d k_Mo_set 84 rfl) g_Mo_add w1690 in_Mo_add se_Mo_add cf12 kd187 (ss_lt (by decide)) rfl (Nat.le_of_ble_eq_true rfl) (V_Mo_add E (d + 7) (5 : Int32) (s5.1 206 x1.toNatClampNeg) (s5.1 207 x1.toNatClampNeg) (s5.1 208 x1.toNatClampNeg) x2 (s5.1 187 0) (s5.1 210 x1.toNatClampNeg) (1 : Int32) x1 s5) (Nat.le_of_ble_eq_true rfl) rfl (fun r6 => ?_)
              show sv_V E _ _ _ 144 _ [.int r6.1] (ss_e r6.2) _
              exact sv_ret (pc := 144) (sv_d k_Mo_set 85 rfl) ⟨_, rfl, rfl⟩ rfl
            · refine sv_aload_n (pc := 119) 0 (sv_d k_Mo_set 70 rfl) rfl rfl ?_
              refine sv_getf (pc := 120) 16 (sv_d k_Mo_set 71 rfl) cf12 (by decide) w1318 kd187 (ss_lt (by decide)) (lr_187_16 E _) ?_
              refine sv_aload_n (pc := 123) 0 (sv_d k_Mo_set 72 rfl) rfl rfl ?_
              refine sv_getf (pc := 124) 38 (sv_d k_Mo_set 73 rfl) cf12 (by decide) w1340 kd187 (ss_lt (by decide)) (lr_187_38 E _) ?_
              refine sv_iload_n (pc := 127) 1 (sv_d k_Mo_set 74 rfl) rfl rfl ?_
              refine ss_iald (pc := 128) (n := 60) (sv_d k_Mo_set 75 rfl) kd210 (ss_lt (by decide)) rfl ?_
              refine ss_iald (pc := 129) (n := 20) (sv_d k_Mo_set 76 rfl) kd199 (ss_lt (by decide)) rfl ?_
              refine sv_goto (pc := 130) (tgt := 139) (sv_d k_Mo_set 77 rfl) (by decide) ?_
              refine sv_iconst (pc := 139) (v := (1 : Int32)) (sv_d k_Mo_set 82 rfl) (by decide) ?_
              refine sv_iload_n (pc := 140) 1 (sv_d k_Mo_set 83 rfl) rfl rfl ?_
              refine sv_callV (pc := 141) (ψ := ss_i) (As := [.int (5 : Int32), .int (s5.1 206 x1.toNatClampNeg), .int (s5.1 207 x1.toNatClampNeg), .int (s5.1 208 x1.toNatClampNeg), .int x2, .int (s5.1 187 0), .int (s5.1 199 (s5.1 210 x1.toNatClampNeg).toNatClampNeg), .int (1 : Int32), .int x1]) (rest := []) (c := 187) (sv_d k_Mo_set 84 rfl) g_Mo_add w1690 in_Mo_add se_Mo_add cf12 kd187 (ss_lt (by decide)) rfl (Nat.le_of_ble_eq_true rfl) (V_Mo_add E (d + 7) (5 : Int32) (s5.1 206 x1.toNatClampNeg) (s5.1 207 x1.toNatClampNeg) (s5.1 208 x1.toNatClampNeg) x2 (s5.1 187 0) (s5.1 199 (s5.1 210 x1.toNatClampNeg).toNatClampNeg) (1 : Int32) x1 s5) (Nat.le_of_ble_eq_true rfl) rfl (fun r7 => ?_)
              show sv_V E _ _ _ 144 _ [.int r7.1] (ss_e r7.2) _
              exact sv_ret (pc := 144) (sv_d k_Mo_set 85 rfl) ⟨_, rfl, rfl⟩ rfl
          · refine sv_bipush (pc := 57) (v := (-4 : Int32)) (sv_d k_Mo_set 31 rfl) (by decide) ?_
            exact sv_ret (pc := 59) (sv_d k_Mo_set 32 rfl) ⟨_, rfl, rfl⟩ rfl
        · refine sv_bipush (pc := 45) (v := (-3 : Int32)) (sv_d k_Mo_set 25 rfl) (by decide) ?_
          exact sv_ret (pc := 47) (sv_d k_Mo_set 26 rfl) ⟨_, rfl, rfl⟩ rfl
    · refine sv_bipush (pc := 22) (v := (-2 : Int32)) (sv_d k_Mo_set 12 rfl) (by decide) ?_
      exact sv_ret (pc := 24) (sv_d k_Mo_set 13 rfl) ⟨_, rfl, rfl⟩ rfl
  · refine sv_iconst (pc := 8) (v := (-1 : Int32)) (sv_d k_Mo_set 4 rfl) (by decide) ?_
    exact sv_ret (pc := 9) (sv_d k_Mo_set 5 rfl) ⟨_, rfl, rfl⟩ rfl
/-! Mo_undo -/
abbrev m_Mo_undo : sv_M := (yX12_undo, cX12_undo, 2, (some .int))
def t_Mo_undo : List (Nat × Instr × Nat) := [(0, .aload_n 0, 1), (1, .iload_n 1, 1), (2, .invokevirtual 372, 3), (5, .ifCond .ne 5, 3), (8, .iconst (-1), 1), (9, .ireturn, 1), (10, .aload_n 0, 1), (11, .iload_n 1, 1), (12, .invokevirtual 375, 3), (15, .iconst 5, 1), (16, .if_icmp .eq 6, 3), (19, .bipush (-12), 2), (21, .ireturn, 1), (22, .aload_n 0, 1), (23, .getfield 133, 3), (26, .iload_n 1, 1), (27, .aload_n 0, 1), (28, .getfield 7, 3), (31, .iastore, 1), (32, .aload_n 0, 1), (33, .getfield 133, 3), (36, .aload_n 0, 1), (37, .getfield 139, 3), (40, .iload_n 1, 1), (41, .iaload, 1), (42, .iconst (-1), 1), (43, .iastore, 1), (44, .aload_n 0, 1), (45, .getfield 139, 3), (48, .iload_n 1, 1), (49, .iaload, 1), (50, .ireturn, 1)]
theorem k_Mo_undo : sv_tk m_Mo_undo.2.1 t_Mo_undo := by decide +kernel
theorem g_Mo_undo : sv_G m_Mo_undo 1 := ⟨by decide +kernel, sv_in 1721 (by decide +kernel) rfl, sv_in 103 (by decide +kernel) rfl, ⟨by decide, by decide⟩, by decide +kernel, by decide⟩
theorem in_Mo_undo : Cond.instanceMethod m_Mo_undo.1 ∈ sv_T := sv_in 1719 (by decide +kernel) rfl
theorem se_Mo_undo : Cond.selects m_Mo_undo.1.cls m_Mo_undo.1 m_Mo_undo.1 ∈ sv_T := sv_in 1720 (by decide +kernel) rfl
def F_Mo_undo (x1 : Int32) (s : sv_S) : Option (Int32 × sv_S) :=
  (F_Mo_isRate x1 s).bind fun r1 =>
  if r1 = 0 then
    some ((-1 : Int32), s)
  else
  (F_Mo_nowKind x1 s).bind fun r2 =>
  if r2 = (5 : Int32) then
    if sv_ib x1 60 = true then
      ss_let (ss_setI s 212 x1.toNatClampNeg (s.1 187 0)) fun s3 =>
      if sv_ib x1 60 = true then
        if sv_ib (s3.1 214 x1.toNatClampNeg) 60 = true then
          ss_let (ss_setI s3 212 (s3.1 214 x1.toNatClampNeg).toNatClampNeg (-1 : Int32)) fun s4 =>
          if sv_ib x1 60 = true then
            some (s4.1 214 x1.toNatClampNeg, s4)
          else none
        else none
      else none
    else none
  else
  some ((-12 : Int32), s)
theorem V_Mo_undo (E : sv_E) (d : Nat) (x1 : Int32) (s : sv_S) : sv_V E m_Mo_undo (d + 2) ss_i 0 (lv_args 0 [sv_r E 187, .int x1]) [] (ss_e s) (F_Mo_undo x1 s) := by
  show sv_V E m_Mo_undo (d + 2) ss_i 0 [(0, sv_r E 187), (1, .int x1)] [] (ss_e s) _
  unfold F_Mo_undo
  refine sv_aload_n (pc := 0) 0 (sv_d k_Mo_undo 0 rfl) rfl rfl ?_
  refine sv_iload_n (pc := 1) 1 (sv_d k_Mo_undo 1 rfl) rfl rfl ?_
  refine sv_callV (pc := 2) (ψ := (ss_pi s)) (As := [.int x1]) (rest := []) (c := 187) (sv_d k_Mo_undo 2 rfl) g_Mo_isRate w1706 in_Mo_isRate se_Mo_isRate cf12 kd187 (ss_lt (by decide)) rfl (Nat.le_of_ble_eq_true rfl) (V_Mo_isRate E (d + 0) x1 s) (Nat.le_of_ble_eq_true rfl) rfl (fun r1 => ?_)
  show sv_V E _ _ _ 5 _ [.int r1] (ss_e s) _
  refine sv_if_ne (pc := 5) (tgt := 10) (sv_d k_Mo_undo 3 rfl) (by decide) ?_ ?_
  · refine sv_aload_n (pc := 10) 0 (sv_d k_Mo_undo 6 rfl) rfl rfl ?_
    refine sv_iload_n (pc := 11) 1 (sv_d k_Mo_undo 7 rfl) rfl rfl ?_
    refine sv_callV (pc := 12) (ψ := (ss_pi s)) (As := [.int x1]) (rest := []) (c := 187) (sv_d k_Mo_undo 8 rfl) g_Mo_nowKind w1710 in_Mo_nowKind se_Mo_nowKind cf12 kd187 (ss_lt (by decide)) rfl (Nat.le_of_ble_eq_true rfl) (V_Mo_nowKind E (d + 1) x1 s) (Nat.le_of_ble_eq_true rfl) rfl (fun r2 => ?_)
    show sv_V E _ _ _ 15 _ [.int r2] (ss_e s) _
    refine sv_iconst (pc := 15) (v := (5 : Int32)) (sv_d k_Mo_undo 9 rfl) (by decide) ?_
    refine sv_icmp_eq (pc := 16) (tgt := 22) (sv_d k_Mo_undo 10 rfl) (by decide) ?_ ?_
    · refine sv_aload_n (pc := 22) 0 (sv_d k_Mo_undo 13 rfl) rfl rfl ?_
      refine sv_getf (pc := 23) 40 (sv_d k_Mo_undo 14 rfl) cf12 (by decide) w1342 kd187 (ss_lt (by decide)) (lr_187_40 E _) ?_
      refine sv_iload_n (pc := 26) 1 (sv_d k_Mo_undo 15 rfl) rfl rfl ?_
      refine sv_aload_n (pc := 27) 0 (sv_d k_Mo_undo 16 rfl) rfl rfl ?_
      refine sv_getf (pc := 28) 0 (sv_d k_Mo_undo 17 rfl) cf12 (by decide) w1302 kd187 (ss_lt (by decide)) rfl ?_
      refine ss_iast (pc := 31) (n := 60) (sv_d k_Mo_undo 18 rfl) kd212 (by decide) (ss_lt (by decide)) rfl (ss_lets (fun s3 e_s3 => ?_))
      refine sv_aload_n (pc := 32) 0 (sv_d k_Mo_undo 19 rfl) rfl rfl ?_
      refine sv_getf (pc := 33) 40 (sv_d k_Mo_undo 20 rfl) cf12 (by decide) w1342 kd187 (ss_lt (by decide)) (lr_187_40 E _) ?_
      refine sv_aload_n (pc := 36) 0 (sv_d k_Mo_undo 21 rfl) rfl rfl ?_
      refine sv_getf (pc := 37) 42 (sv_d k_Mo_undo 22 rfl) cf12 (by decide) w1344 kd187 (ss_lt (by decide)) (lr_187_42 E _) ?_
      refine sv_iload_n (pc := 40) 1 (sv_d k_Mo_undo 23 rfl) rfl rfl ?_
      refine ss_iald (pc := 41) (n := 60) (sv_d k_Mo_undo 24 rfl) kd214 (ss_lt (by decide)) rfl ?_
      refine sv_iconst (pc := 42) (v := (-1 : Int32)) (sv_d k_Mo_undo 25 rfl) (by decide) ?_
      refine ss_iast (pc := 43) (n := 60) (sv_d k_Mo_undo 26 rfl) kd212 (by decide) (ss_lt (by decide)) rfl (ss_lets (fun s4 e_s4 => ?_))
      refine sv_aload_n (pc := 44) 0 (sv_d k_Mo_undo 27 rfl) rfl rfl ?_
      refine sv_getf (pc := 45) 42 (sv_d k_Mo_undo 28 rfl) cf12 (by decide) w1344 kd187 (ss_lt (by decide)) (lr_187_42 E _) ?_
      refine sv_iload_n (pc := 48) 1 (sv_d k_Mo_undo 29 rfl) rfl rfl ?_
      refine ss_iald (pc := 49) (n := 60) (sv_d k_Mo_undo 30 rfl) kd214 (ss_lt (by decide)) rfl ?_
      exact sv_ret (pc := 50) (sv_d k_Mo_undo 31 rfl) ⟨_, rfl, rfl⟩ rfl
    · refine sv_bipush (pc := 19) (v := (-12 : Int32)) (sv_d k_Mo_undo 11 rfl) (by decide) ?_
      exact sv_ret (pc := 21) (sv_d k_Mo_undo 12 rfl) ⟨_, rfl, rfl⟩ rfl
  · refine sv_iconst (pc := 8) (v := (-1 : Int32)) (sv_d k_Mo_undo 4 rfl) (by decide) ?_
    exact sv_ret (pc := 9) (sv_d k_Mo_undo 5 rfl) ⟨_, rfl, rfl⟩ rfl
/-! Mo_of -/
abbrev m_Mo_of : sv_M := (yX12_of, cX12_of, 3, (some .int))
def t_Mo_of : List (Nat × Instr × Nat) := [(0, .aload_n 0, 1), (1, .iload_n 1, 1), (2, .invokevirtual 372, 3), (5, .ifCond .ne 6, 3), (8, .bipush (-5), 2), (10, .ireturn, 1), (11, .iload_n 2, 1), (12, .tableswitch (136) (0) (10) #[60, 66, 73, 80, 87, 94, 101, 108, 115, 122, 129], 60), (72, .aload_n 0, 1), (73, .iload_n 1, 1), (74, .invokevirtual 375, 3), (77, .ireturn, 1), (78, .aload_n 0, 1), (79, .getfield 112, 3), (82, .iload_n 1, 1), (83, .iaload, 1), (84, .ireturn, 1), (85, .aload_n 0, 1), (86, .getfield 115, 3), (89, .iload_n 1, 1), (90, .iaload, 1), (91, .ireturn, 1), (92, .aload_n 0, 1), (93, .getfield 118, 3), (96, .iload_n 1, 1), (97, .iaload, 1), (98, .ireturn, 1), (99, .aload_n 0, 1), (100, .getfield 121, 3), (103, .iload_n 1, 1), (104, .iaload, 1), (105, .ireturn, 1), (106, .aload_n 0, 1), (107, .getfield 124, 3), (110, .iload_n 1, 1), (111, .iaload, 1), (112, .ireturn, 1), (113, .aload_n 0, 1), (114, .getfield 127, 3), (117, .iload_n 1, 1), (118, .iaload, 1), (119, .ireturn, 1), (120, .aload_n 0, 1), (121, .getfield 130, 3), (124, .iload_n 1, 1), (125, .iaload, 1), (126, .ireturn, 1), (127, .aload_n 0, 1), (128, .getfield 133, 3), (131, .iload_n 1, 1), (132, .iaload, 1), (133, .ireturn, 1), (134, .aload_n 0, 1), (135, .getfield 136, 3), (138, .iload_n 1, 1), (139, .iaload, 1), (140, .ireturn, 1), (141, .aload_n 0, 1), (142, .getfield 139, 3), (145, .iload_n 1, 1), (146, .iaload, 1), (147, .ireturn, 1), (148, .bipush (-5), 2), (150, .ireturn, 1)]
theorem k_Mo_of : sv_tk m_Mo_of.2.1 t_Mo_of := by decide +kernel
theorem g_Mo_of : sv_G m_Mo_of 2 := ⟨by decide +kernel, sv_in 1725 (by decide +kernel) rfl, sv_in 103 (by decide +kernel) rfl, ⟨by decide, by decide⟩, by decide +kernel, by decide⟩
theorem in_Mo_of : Cond.instanceMethod m_Mo_of.1 ∈ sv_T := sv_in 1723 (by decide +kernel) rfl
theorem se_Mo_of : Cond.selects m_Mo_of.1.cls m_Mo_of.1 m_Mo_of.1 ∈ sv_T := sv_in 1724 (by decide +kernel) rfl
def F_Mo_of (x1 : Int32) (x2 : Int32) (s : sv_S) : Option (Int32) :=
  (F_Mo_isRate x1 s).bind fun r1 =>
  if r1 = 0 then
    some (-5 : Int32)
  else
  if x2 = (0 : Int32) then
    (F_Mo_nowKind x1 s).bind fun r2 =>
    some r2
  else if x2 = (1 : Int32) then
    if sv_ib x1 60 = true then
      some (s.1 205 x1.toNatClampNeg)
    else none
  else if x2 = (2 : Int32) then
    if sv_ib x1 60 = true then
      some (s.1 206 x1.toNatClampNeg)
    else none
  else if x2 = (3 : Int32) then
    if sv_ib x1 60 = true then
      some (s.1 207 x1.toNatClampNeg)
    else none
  else if x2 = (4 : Int32) then
    if sv_ib x1 60 = true then
      some (s.1 208 x1.toNatClampNeg)
    else none
  else if x2 = (5 : Int32) then
    if sv_ib x1 60 = true then
      some (s.1 209 x1.toNatClampNeg)
    else none
  else if x2 = (6 : Int32) then
    if sv_ib x1 60 = true then
      some (s.1 210 x1.toNatClampNeg)
    else none
  else if x2 = (7 : Int32) then
    if sv_ib x1 60 = true then
      some (s.1 211 x1.toNatClampNeg)
    else none
  else if x2 = (8 : Int32) then
    if sv_ib x1 60 = true then
      some (s.1 212 x1.toNatClampNeg)
    else none
  else if x2 = (9 : Int32) then
    if sv_ib x1 60 = true then
      some (s.1 213 x1.toNatClampNeg)
    else none
  else if x2 = (10 : Int32) then
    if sv_ib x1 60 = true then
      some (s.1 214 x1.toNatClampNeg)
    else none
  else 
  some (-5 : Int32)
theorem V_Mo_of (E : sv_E) (d : Nat) (x1 : Int32) (x2 : Int32) (s : sv_S) : sv_V E m_Mo_of (d + 2) (ss_pi s) 0 (lv_args 0 [sv_r E 187, .int x1, .int x2]) [] (ss_e s) (F_Mo_of x1 x2 s) := by
  show sv_V E m_Mo_of (d + 2) (ss_pi s) 0 [(0, sv_r E 187), (1, .int x1), (2, .int x2)] [] (ss_e s) _
  unfold F_Mo_of
  refine sv_aload_n (pc := 0) 0 (sv_d k_Mo_of 0 rfl) rfl rfl ?_
  refine sv_iload_n (pc := 1) 1 (sv_d k_Mo_of 1 rfl) rfl rfl ?_
  refine sv_callV (pc := 2) (ψ := (ss_pi s)) (As := [.int x1]) (rest := []) (c := 187) (sv_d k_Mo_of 2 rfl) g_Mo_isRate w1706 in_Mo_isRate se_Mo_isRate cf12 kd187 (ss_lt (by decide)) rfl (Nat.le_of_ble_eq_true rfl) (V_Mo_isRate E (d + 0) x1 s) (Nat.le_of_ble_eq_true rfl) rfl (fun r1 => ?_)
  show sv_V E _ _ _ 5 _ [.int r1] (ss_e s) _
  refine sv_if_ne (pc := 5) (tgt := 11) (sv_d k_Mo_of 3 rfl) (by decide) ?_ ?_
  · refine sv_iload_n (pc := 11) 2 (sv_d k_Mo_of 6 rfl) rfl rfl ?_
    refine ss_dec (fun hh3 => ?_) (fun hh3 => ?_)
    · refine sv_tab (pc := 12) (tgt := 72) (sv_d k_Mo_of 7 rfl) (0 : Int32) hh3 (by decide) (by decide) rfl (by decide) ?_
      refine sv_aload_n (pc := 72) 0 (sv_d k_Mo_of 8 rfl) rfl rfl ?_
      refine sv_iload_n (pc := 73) 1 (sv_d k_Mo_of 9 rfl) rfl rfl ?_
      refine sv_callV (pc := 74) (ψ := (ss_pi s)) (As := [.int x1]) (rest := []) (c := 187) (sv_d k_Mo_of 10 rfl) g_Mo_nowKind w1710 in_Mo_nowKind se_Mo_nowKind cf12 kd187 (ss_lt (by decide)) rfl (Nat.le_of_ble_eq_true rfl) (V_Mo_nowKind E (d + 1) x1 s) (Nat.le_of_ble_eq_true rfl) rfl (fun r2 => ?_)
      show sv_V E _ _ _ 77 _ [.int r2] (ss_e s) _
      exact sv_ret (pc := 77) (sv_d k_Mo_of 11 rfl) ⟨_, rfl, rfl⟩ rfl
    · refine ss_dec (fun hh4 => ?_) (fun hh4 => ?_)
      · refine sv_tab (pc := 12) (tgt := 78) (sv_d k_Mo_of 7 rfl) (1 : Int32) hh4 (by decide) (by decide) rfl (by decide) ?_
        refine sv_aload_n (pc := 78) 0 (sv_d k_Mo_of 12 rfl) rfl rfl ?_
        refine sv_getf (pc := 79) 33 (sv_d k_Mo_of 13 rfl) cf12 (by decide) w1335 kd187 (ss_lt (by decide)) (lr_187_33 E _) ?_
        refine sv_iload_n (pc := 82) 1 (sv_d k_Mo_of 14 rfl) rfl rfl ?_
        refine ss_iald (pc := 83) (n := 60) (sv_d k_Mo_of 15 rfl) kd205 (ss_lt (by decide)) rfl ?_
        exact sv_ret (pc := 84) (sv_d k_Mo_of 16 rfl) ⟨_, rfl, rfl⟩ rfl
      · refine ss_dec (fun hh5 => ?_) (fun hh5 => ?_)
        · refine sv_tab (pc := 12) (tgt := 85) (sv_d k_Mo_of 7 rfl) (2 : Int32) hh5 (by decide) (by decide) rfl (by decide) ?_
          refine sv_aload_n (pc := 85) 0 (sv_d k_Mo_of 17 rfl) rfl rfl ?_
          refine sv_getf (pc := 86) 34 (sv_d k_Mo_of 18 rfl) cf12 (by decide) w1336 kd187 (ss_lt (by decide)) (lr_187_34 E _) ?_
          refine sv_iload_n (pc := 89) 1 (sv_d k_Mo_of 19 rfl) rfl rfl ?_
          refine ss_iald (pc := 90) (n := 60) (sv_d k_Mo_of 20 rfl) kd206 (ss_lt (by decide)) rfl ?_
          exact sv_ret (pc := 91) (sv_d k_Mo_of 21 rfl) ⟨_, rfl, rfl⟩ rfl
        · refine ss_dec (fun hh6 => ?_) (fun hh6 => ?_)
          · refine sv_tab (pc := 12) (tgt := 92) (sv_d k_Mo_of 7 rfl) (3 : Int32) hh6 (by decide) (by decide) rfl (by decide) ?_
            refine sv_aload_n (pc := 92) 0 (sv_d k_Mo_of 22 rfl) rfl rfl ?_
            refine sv_getf (pc := 93) 35 (sv_d k_Mo_of 23 rfl) cf12 (by decide) w1337 kd187 (ss_lt (by decide)) (lr_187_35 E _) ?_
            refine sv_iload_n (pc := 96) 1 (sv_d k_Mo_of 24 rfl) rfl rfl ?_
            refine ss_iald (pc := 97) (n := 60) (sv_d k_Mo_of 25 rfl) kd207 (ss_lt (by decide)) rfl ?_
            exact sv_ret (pc := 98) (sv_d k_Mo_of 26 rfl) ⟨_, rfl, rfl⟩ rfl
          · refine ss_dec (fun hh7 => ?_) (fun hh7 => ?_)
            · refine sv_tab (pc := 12) (tgt := 99) (sv_d k_Mo_of 7 rfl) (4 : Int32) hh7 (by decide) (by decide) rfl (by decide) ?_
              refine sv_aload_n (pc := 99) 0 (sv_d k_Mo_of 27 rfl) rfl rfl ?_
              refine sv_getf (pc := 100) 36 (sv_d k_Mo_of 28 rfl) cf12 (by decide) w1338 kd187 (ss_lt (by decide)) (lr_187_36 E _) ?_
              refine sv_iload_n (pc := 103) 1 (sv_d k_Mo_of 29 rfl) rfl rfl ?_
              refine ss_iald (pc := 104) (n := 60) (sv_d k_Mo_of 30 rfl) kd208 (ss_lt (by decide)) rfl ?_
              exact sv_ret (pc := 105) (sv_d k_Mo_of 31 rfl) ⟨_, rfl, rfl⟩ rfl
            · refine ss_dec (fun hh8 => ?_) (fun hh8 => ?_)
              · refine sv_tab (pc := 12) (tgt := 106) (sv_d k_Mo_of 7 rfl) (5 : Int32) hh8 (by decide) (by decide) rfl (by decide) ?_
                refine sv_aload_n (pc := 106) 0 (sv_d k_Mo_of 32 rfl) rfl rfl ?_
                refine sv_getf (pc := 107) 37 (sv_d k_Mo_of 33 rfl) cf12 (by decide) w1339 kd187 (ss_lt (by decide)) (lr_187_37 E _) ?_
                refine sv_iload_n (pc := 110) 1 (sv_d k_Mo_of 34 rfl) rfl rfl ?_
                refine ss_iald (pc := 111) (n := 60) (sv_d k_Mo_of 35 rfl) kd209 (ss_lt (by decide)) rfl ?_
                exact sv_ret (pc := 112) (sv_d k_Mo_of 36 rfl) ⟨_, rfl, rfl⟩ rfl
              · refine ss_dec (fun hh9 => ?_) (fun hh9 => ?_)
                · refine sv_tab (pc := 12) (tgt := 113) (sv_d k_Mo_of 7 rfl) (6 : Int32) hh9 (by decide) (by decide) rfl (by decide) ?_
                  refine sv_aload_n (pc := 113) 0 (sv_d k_Mo_of 37 rfl) rfl rfl ?_
                  refine sv_getf (pc := 114) 38 (sv_d k_Mo_of 38 rfl) cf12 (by decide) w1340 kd187 (ss_lt (by decide)) (lr_187_38 E _) ?_
                  refine sv_iload_n (pc := 117) 1 (sv_d k_Mo_of 39 rfl) rfl rfl ?_
                  refine ss_iald (pc := 118) (n := 60) (sv_d k_Mo_of 40 rfl) kd210 (ss_lt (by decide)) rfl ?_
                  exact sv_ret (pc := 119) (sv_d k_Mo_of 41 rfl) ⟨_, rfl, rfl⟩ rfl
                · refine ss_dec (fun hh10 => ?_) (fun hh10 => ?_)
                  · refine sv_tab (pc := 12) (tgt := 120) (sv_d k_Mo_of 7 rfl) (7 : Int32) hh10 (by decide) (by decide) rfl (by decide) ?_
                    refine sv_aload_n (pc := 120) 0 (sv_d k_Mo_of 42 rfl) rfl rfl ?_
                    refine sv_getf (pc := 121) 39 (sv_d k_Mo_of 43 rfl) cf12 (by decide) w1341 kd187 (ss_lt (by decide)) (lr_187_39 E _) ?_
                    refine sv_iload_n (pc := 124) 1 (sv_d k_Mo_of 44 rfl) rfl rfl ?_
                    refine ss_iald (pc := 125) (n := 60) (sv_d k_Mo_of 45 rfl) kd211 (ss_lt (by decide)) rfl ?_
                    exact sv_ret (pc := 126) (sv_d k_Mo_of 46 rfl) ⟨_, rfl, rfl⟩ rfl
                  · refine ss_dec (fun hh11 => ?_) (fun hh11 => ?_)
                    · refine sv_tab (pc := 12) (tgt := 127) (sv_d k_Mo_of 7 rfl) (8 : Int32) hh11 (by decide) (by decide) rfl (by decide) ?_
                      refine sv_aload_n (pc := 127) 0 (sv_d k_Mo_of 47 rfl) rfl rfl ?_
                      refine sv_getf (pc := 128) 40 (sv_d k_Mo_of 48 rfl) cf12 (by decide) w1342 kd187 (ss_lt (by decide)) (lr_187_40 E _) ?_
                      refine sv_iload_n (pc := 131) 1 (sv_d k_Mo_of 49 rfl) rfl rfl ?_
                      refine ss_iald (pc := 132) (n := 60) (sv_d k_Mo_of 50 rfl) kd212 (ss_lt (by decide)) rfl ?_
                      exact sv_ret (pc := 133) (sv_d k_Mo_of 51 rfl) ⟨_, rfl, rfl⟩ rfl
                    · refine ss_dec (fun hh12 => ?_) (fun hh12 => ?_)
                      · refine sv_tab (pc := 12) (tgt := 134) (sv_d k_Mo_of 7 rfl) (9 : Int32) hh12 (by decide) (by decide) rfl (by decide) ?_
                        refine sv_aload_n (pc := 134) 0 (sv_d k_Mo_of 52 rfl) rfl rfl ?_
                        refine sv_getf (pc := 135) 41 (sv_d k_Mo_of 53 rfl) cf12 (by decide) w1343 kd187 (ss_lt (by decide)) (lr_187_41 E _) ?_
                        refine sv_iload_n (pc := 138) 1 (sv_d k_Mo_of 54 rfl) rfl rfl ?_
                        refine ss_iald (pc := 139) (n := 60) (sv_d k_Mo_of 55 rfl) kd213 (ss_lt (by decide)) rfl ?_
                        exact sv_ret (pc := 140) (sv_d k_Mo_of 56 rfl) ⟨_, rfl, rfl⟩ rfl
                      · refine ss_dec (fun hh13 => ?_) (fun hh13 => ?_)
                        · refine sv_tab (pc := 12) (tgt := 141) (sv_d k_Mo_of 7 rfl) (10 : Int32) hh13 (by decide) (by decide) rfl (by decide) ?_
                          refine sv_aload_n (pc := 141) 0 (sv_d k_Mo_of 57 rfl) rfl rfl ?_
                          refine sv_getf (pc := 142) 42 (sv_d k_Mo_of 58 rfl) cf12 (by decide) w1344 kd187 (ss_lt (by decide)) (lr_187_42 E _) ?_
                          refine sv_iload_n (pc := 145) 1 (sv_d k_Mo_of 59 rfl) rfl rfl ?_
                          refine ss_iald (pc := 146) (n := 60) (sv_d k_Mo_of 60 rfl) kd214 (ss_lt (by decide)) rfl ?_
                          exact sv_ret (pc := 147) (sv_d k_Mo_of 61 rfl) ⟨_, rfl, rfl⟩ rfl
                        · refine sv_tabD (pc := 12) (tgt := 148) (sv_d k_Mo_of 7 rfl) (by rcases Int.lt_or_le (Int32.toInt x2) (0) with q | q; exact Or.inl q; have q := (sv_nlt (sv_nlt (sv_nlt (sv_nlt (sv_nlt (sv_nlt (sv_nlt (sv_nlt (sv_nlt (sv_nlt (sv_nlt q (lv_neT hh3 rfl)) (lv_neT hh4 rfl)) (lv_neT hh5 rfl)) (lv_neT hh6 rfl)) (lv_neT hh7 rfl)) (lv_neT hh8 rfl)) (lv_neT hh9 rfl)) (lv_neT hh10 rfl)) (lv_neT hh11 rfl)) (lv_neT hh12 rfl)) (lv_neT hh13 rfl)); exact Or.inr (by omega)) (by decide) ?_
                          refine sv_bipush (pc := 148) (v := (-5 : Int32)) (sv_d k_Mo_of 62 rfl) (by decide) ?_
                          exact sv_ret (pc := 150) (sv_d k_Mo_of 63 rfl) ⟨_, rfl, rfl⟩ rfl
  · refine sv_bipush (pc := 8) (v := (-5 : Int32)) (sv_d k_Mo_of 4 rfl) (by decide) ?_
    exact sv_ret (pc := 10) (sv_d k_Mo_of 5 rfl) ⟨_, rfl, rfl⟩ rfl
/-! Mo_isTons -/
abbrev m_Mo_isTons : sv_M := (yX12_isTons, cX12_isTons, 2, (some .boolean))
def t_Mo_isTons : List (Nat × Instr × Nat) := [(0, .aload_n 0, 1), (1, .iload_n 1, 1), (2, .iconst 1, 1), (3, .bipush 99, 2), (5, .invokevirtual 251, 3), (8, .ireturn, 1)]
theorem k_Mo_isTons : sv_tk m_Mo_isTons.2.1 t_Mo_isTons := by decide +kernel
theorem g_Mo_isTons : sv_G m_Mo_isTons 1 := ⟨by decide +kernel, sv_in 1733 (by decide +kernel) rfl, sv_in 103 (by decide +kernel) rfl, ⟨by decide, by decide⟩, by decide +kernel, by decide⟩
theorem in_Mo_isTons : Cond.instanceMethod m_Mo_isTons.1 ∈ sv_T := sv_in 1732 (by decide +kernel) rfl
theorem se_Mo_isTons : Cond.selects m_Mo_isTons.1.cls m_Mo_isTons.1 m_Mo_isTons.1 ∈ sv_T := sv_in 64 (by decide +kernel) rfl
def F_Mo_isTons (x1 : Int32) (s : sv_S) : Option (Int32) :=
  (F_Mo_in x1 (1 : Int32) (99 : Int32) s).bind fun r1 =>
  if sv_bl r1 = true then some r1 else none
theorem V_Mo_isTons (E : sv_E) (d : Nat) (x1 : Int32) (s : sv_S) : sv_V E m_Mo_isTons (d + 1) (ss_pi s) 0 (lv_args 0 [sv_r E 187, .int x1]) [] (ss_e s) (F_Mo_isTons x1 s) := by
  show sv_V E m_Mo_isTons (d + 1) (ss_pi s) 0 [(0, sv_r E 187), (1, .int x1)] [] (ss_e s) _
  unfold F_Mo_isTons
  refine sv_aload_n (pc := 0) 0 (sv_d k_Mo_isTons 0 rfl) rfl rfl ?_
  refine sv_iload_n (pc := 1) 1 (sv_d k_Mo_isTons 1 rfl) rfl rfl ?_
  refine sv_iconst (pc := 2) (v := (1 : Int32)) (sv_d k_Mo_isTons 2 rfl) (by decide) ?_
  refine sv_bipush (pc := 3) (v := (99 : Int32)) (sv_d k_Mo_isTons 3 rfl) (by decide) ?_
  refine sv_callV (pc := 5) (ψ := (ss_pi s)) (As := [.int x1, .int (1 : Int32), .int (99 : Int32)]) (rest := []) (c := 187) (sv_d k_Mo_isTons 4 rfl) g_Mo_in w1545 in_Mo_in se_Mo_in cf12 kd187 (ss_lt (by decide)) rfl (Nat.le_of_ble_eq_true rfl) (V_Mo_in E (d + 0) x1 (1 : Int32) (99 : Int32) s) (Nat.le_of_ble_eq_true rfl) rfl (fun r1 => ?_)
  show sv_V E _ _ _ 8 _ [.int r1] (ss_e s) _
  exact ss_grd (fun bb2 => sv_ret (pc := 8) (sv_d k_Mo_isTons 5 rfl) ⟨_, rfl, sv_bln bb2⟩ rfl)
/-! Mo_prepare -/
abbrev m_Mo_prepare : sv_M := (yX12_prepare, cX12_prepare, 5, none)
def t_Mo_prepare : List (Nat × Instr × Nat) := [(0, .iconst 0, 1), (1, .istore_n 2, 1), (2, .iload_n 2, 1), (3, .bipush 6, 2), (5, .if_icmp .ge 183, 3), (8, .aload_n 0, 1), (9, .iload_n 2, 1), (10, .iload_n 1, 1), (11, .invokevirtual 358, 3), (14, .aload_n 0, 1), (15, .getfield 145, 3), (18, .iload_n 2, 1), (19, .aload_n 0, 1), (20, .getfield 65, 3), (23, .iconst 0, 1), (24, .iaload, 1), (25, .iastore, 1), (26, .aload_n 0, 1), (27, .getfield 142, 3), (30, .iload_n 2, 1), (31, .aload_n 0, 1), (32, .getfield 65, 3), (35, .iconst 1, 1), (36, .iaload, 1), (37, .bipush 99, 2), (39, .if_icmp .le 8, 3), (42, .bipush 99, 2), (44, .goto 9, 3), (47, .aload_n 0, 1), (48, .getfield 65, 3), (51, .iconst 1, 1), (52, .iaload, 1), (53, .iastore, 1), (54, .iconst 0, 1), (55, .istore_n 3, 1), (56, .iload_n 3, 1), (57, .bipush 20, 2), (59, .if_icmp .ge 26, 3), (62, .aload_n 0, 1), (63, .getfield 148, 3), (66, .bipush 20, 2), (68, .iload_n 2, 1), (69, .imul, 1), (70, .iload_n 3, 1), (71, .iadd, 1), (72, .aload_n 0, 1), (73, .getfield 59, 3), (76, .iload_n 3, 1), (77, .iaload, 1), (78, .iastore, 1), (79, .iinc 3 1, 3), (82, .goto (-26), 3), (85, .aload_n 0, 1), (86, .iload_n 2, 1), (87, .invokevirtual 263, 3), (90, .iconst 0, 1), (91, .istore_n 3, 1), (92, .iload_n 3, 1), (93, .aload_n 0, 1), (94, .getfield 109, 3), (97, .if_icmp .ge 85, 3), (100, .aload_n 0, 1), (101, .getfield 112, 3), (104, .iload_n 3, 1), (105, .iaload, 1), (106, .iconst 3, 1), (107, .if_icmp .ne 69, 3), (110, .aload_n 0, 1), (111, .getfield 115, 3), (114, .iload_n 3, 1), (115, .iaload, 1), (116, .iload_n 2, 1), (117, .if_icmp .eq 6, 3), (120, .goto 56, 3), (123, .aload_n 0, 1), (124, .getfield 29, 3), (127, .bipush 16, 2), (129, .aload_n 0, 1), (130, .getfield 118, 3), (133, .iload_n 3, 1), (134, .iaload, 1), (135, .imul, 1), (136, .aload_n 0, 1), (137, .getfield 121, 3), (140, .iload_n 3, 1), (141, .iaload, 1), (142, .iadd, 1), (143, .iaload, 1), (144, .istore 4, 2), (146, .aload_n 0, 1), (147, .getfield 151, 3), (150, .iload_n 3, 1), (151, .iload 4, 2), (153, .ldc_w 262, 3), (156, .if_icmp .ge 18, 3), (159, .iload 4, 2), (161, .aload_n 0, 1), (162, .getfield 124, 3), (165, .iload_n 3, 1), (166, .iaload, 1), (167, .imul, 1), (168, .bipush 10, 2), (170, .idiv, 1), (171, .goto 4, 3), (174, .iconst (-1), 1), (175, .iastore, 1), (176, .iinc 3 1, 3), (179, .goto (-87), 3), (182, .iinc 2 1, 3), (185, .goto (-183), 3), (188, .return_, 1)]
theorem k_Mo_prepare : sv_tk m_Mo_prepare.2.1 t_Mo_prepare := by decide +kernel
theorem g_Mo_prepare : sv_G m_Mo_prepare 1 := ⟨by decide +kernel, sv_in 1737 (by decide +kernel) rfl, sv_in 103 (by decide +kernel) rfl, ⟨by decide, by decide⟩, by decide +kernel, by decide⟩
theorem in_Mo_prepare : Cond.instanceMethod m_Mo_prepare.1 ∈ sv_T := sv_in 1736 (by decide +kernel) rfl
theorem se_Mo_prepare : Cond.selects m_Mo_prepare.1.cls m_Mo_prepare.1 m_Mo_prepare.1 ∈ sv_T := sv_in 65 (by decide +kernel) rfl
def F_Mo_prepare_b176 (kc2 : Int32 → Int32 → sv_S → Option (sv_S)) (kc92 : Int32 → Int32 → Int32 → sv_S → Option (sv_S)) (x1 : Int32) (x2 : Int32) (x3 : Int32) (s : sv_S) : Option (sv_S) :=
  ss_let (x3 + (1 : Int32)) fun v6 =>
  kc92 x1 x2 v6 s
theorem V_Mo_prepare_b176 (E : sv_E) (d : Nat) (kc2 : Int32 → Int32 → sv_S → Option (sv_S)) (kc92 : Int32 → Int32 → Int32 → sv_S → Option (sv_S)) (hc2 : ∀ (x1 : Int32) (x2 : Int32) (s : sv_S), sv_V E m_Mo_prepare (d + 8) ss_v 2 [(0, sv_r E 187), (1, .int x1), (2, .int x2)] [] (ss_e s) (kc2 x1 x2 s)) (hc92 : ∀ (x1 : Int32) (x2 : Int32) (x3 : Int32) (s : sv_S), sv_V E m_Mo_prepare (d + 8) ss_v 92 [(0, sv_r E 187), (1, .int x1), (2, .int x2), (3, .int x3)] [] (ss_e s) (kc92 x1 x2 x3 s)) (x1 : Int32) (x2 : Int32) (x3 : Int32) (s : sv_S) : sv_V E m_Mo_prepare (d + 8) ss_v 176 [(0, sv_r E 187), (1, .int x1), (2, .int x2), (3, .int x3)] [] (ss_e s) (F_Mo_prepare_b176 kc2 kc92 x1 x2 x3 s) := by
  unfold F_Mo_prepare_b176
  refine ss_letr (fun v6 e_v6 => ?_)
  refine sv_iinc (pc := 176) (v := v6) (lv' := [(3, .int v6), (0, sv_r E 187), (1, .int x1), (2, .int x2)]) (sv_d k_Mo_prepare 106 rfl) (n := 3) rfl (by rw [e_v6]; rfl) (by decide) rfl ?_
  refine sv_goto (pc := 179) (tgt := 92) (sv_d k_Mo_prepare 107 rfl) (by decide) ?_
  exact sv_loc [1, 2, 3, 0] rfl (hc92 x1 x2 v6 s)
def F_Mo_prepare_b175 (kc2 : Int32 → Int32 → sv_S → Option (sv_S)) (kc92 : Int32 → Int32 → Int32 → sv_S → Option (sv_S)) (x1 : Int32) (x2 : Int32) (x3 : Int32) (t1 : Int32) (t2 : Int32) (s : sv_S) : Option (sv_S) :=
  if sv_ib t1 60 = true then
    ss_let (ss_setI s 218 t1.toNatClampNeg t2) fun s8 =>
    F_Mo_prepare_b176 kc2 kc92 x1 x2 x3 s8
  else none
theorem V_Mo_prepare_b175 (E : sv_E) (d : Nat) (kc2 : Int32 → Int32 → sv_S → Option (sv_S)) (kc92 : Int32 → Int32 → Int32 → sv_S → Option (sv_S)) (hc2 : ∀ (x1 : Int32) (x2 : Int32) (s : sv_S), sv_V E m_Mo_prepare (d + 8) ss_v 2 [(0, sv_r E 187), (1, .int x1), (2, .int x2)] [] (ss_e s) (kc2 x1 x2 s)) (hc92 : ∀ (x1 : Int32) (x2 : Int32) (x3 : Int32) (s : sv_S), sv_V E m_Mo_prepare (d + 8) ss_v 92 [(0, sv_r E 187), (1, .int x1), (2, .int x2), (3, .int x3)] [] (ss_e s) (kc92 x1 x2 x3 s)) (x1 : Int32) (x2 : Int32) (x3 : Int32) (t1 : Int32) (t2 : Int32) (s : sv_S) : sv_V E m_Mo_prepare (d + 8) ss_v 175 [(0, sv_r E 187), (1, .int x1), (2, .int x2), (3, .int x3)] [.int t2, .int t1, sv_r E 218] (ss_e s) (F_Mo_prepare_b175 kc2 kc92 x1 x2 x3 t1 t2 s) := by
  unfold F_Mo_prepare_b175
  refine ss_iast (pc := 175) (n := 60) (sv_d k_Mo_prepare 105 rfl) kd218 (by decide) (ss_lt (by decide)) rfl (ss_lets (fun s8 e_s8 => ?_))
  exact sv_loc [0, 1, 2, 3] rfl (V_Mo_prepare_b176 E d kc2 kc92 hc2 hc92 x1 x2 x3 s8)
def F_Mo_prepare_b92 (kc2 : Int32 → Int32 → sv_S → Option (sv_S)) : Nat → Int32 → Int32 → Int32 → sv_S → Option (sv_S)
  | 0 => fun _ _ _ _ => none
  | n + 1 => fun x1 x2 x3 s =>
    if (s.1 187 32) ≤ x3 then
      ss_let (x2 + (1 : Int32)) fun v5 =>
      kc2 x1 v5 s
    else
    if sv_ib x3 60 = true then
      if (s.1 205 x3.toNatClampNeg) = (3 : Int32) then
        if sv_ib x3 60 = true then
          if (s.1 206 x3.toNatClampNeg) = x2 then
            if sv_ib x3 60 = true then
              if sv_ib x3 60 = true then
                if sv_ib (((16 : Int32) * (s.1 207 x3.toNatClampNeg)) + (s.1 208 x3.toNatClampNeg)) 256 = true then
                  ss_let (s.1 192 (((16 : Int32) * (s.1 207 x3.toNatClampNeg)) + (s.1 208 x3.toNatClampNeg)).toNatClampNeg) fun v7 =>
                  if (100000 : Int32) ≤ v7 then
                    F_Mo_prepare_b175 kc2 (F_Mo_prepare_b92 kc2 n) x1 x2 x3 x3 (-1 : Int32) s
                  else
                  if sv_ib x3 60 = true then
                    F_Mo_prepare_b175 kc2 (F_Mo_prepare_b92 kc2 n) x1 x2 x3 x3 ((v7 * (s.1 209 x3.toNatClampNeg)) / (10 : Int32)) s
                  else none
                else none
              else none
            else none
          else
          F_Mo_prepare_b176 kc2 (F_Mo_prepare_b92 kc2 n) x1 x2 x3 s
        else none
      else
      F_Mo_prepare_b176 kc2 (F_Mo_prepare_b92 kc2 n) x1 x2 x3 s
    else none
theorem V_Mo_prepare_b92 (E : sv_E) (d : Nat) (kc2 : Int32 → Int32 → sv_S → Option (sv_S)) (hc2 : ∀ (x1 : Int32) (x2 : Int32) (s : sv_S), sv_V E m_Mo_prepare (d + 8) ss_v 2 [(0, sv_r E 187), (1, .int x1), (2, .int x2)] [] (ss_e s) (kc2 x1 x2 s)) : ∀ (n : Nat) (x1 : Int32) (x2 : Int32) (x3 : Int32) (s : sv_S), sv_V E m_Mo_prepare (d + 8) ss_v 92 [(0, sv_r E 187), (1, .int x1), (2, .int x2), (3, .int x3)] [] (ss_e s) (F_Mo_prepare_b92 kc2 n x1 x2 x3 s) := by
  intro n
  induction n with
  | zero => intro x1 x2 x3 s; exact sv_none
  | succ n ih =>
    intro x1 x2 x3 s
    unfold F_Mo_prepare_b92
    refine sv_iload_n (pc := 92) 3 (sv_d k_Mo_prepare 57 rfl) rfl rfl ?_
    refine sv_aload_n (pc := 93) 0 (sv_d k_Mo_prepare 58 rfl) rfl rfl ?_
    refine sv_getf (pc := 94) 32 (sv_d k_Mo_prepare 59 rfl) cf12 (by decide) w1334 kd187 (ss_lt (by decide)) rfl ?_
    refine sv_icmp_ge (pc := 97) (tgt := 182) (sv_d k_Mo_prepare 60 rfl) (by decide) ?_ ?_
    · refine ss_letr (fun v5 e_v5 => ?_)
      refine sv_iinc (pc := 182) (v := v5) (lv' := [(2, .int v5), (0, sv_r E 187), (1, .int x1), (3, .int x3)]) (sv_d k_Mo_prepare 108 rfl) (n := 2) rfl (by rw [e_v5]; rfl) (by decide) rfl ?_
      refine sv_goto (pc := 185) (tgt := 2) (sv_d k_Mo_prepare 109 rfl) (by decide) ?_
      exact sv_loc [1, 2, 0] rfl (hc2 x1 v5 s)
    · refine sv_aload_n (pc := 100) 0 (sv_d k_Mo_prepare 61 rfl) rfl rfl ?_
      refine sv_getf (pc := 101) 33 (sv_d k_Mo_prepare 62 rfl) cf12 (by decide) w1335 kd187 (ss_lt (by decide)) (lr_187_33 E _) ?_
      refine sv_iload_n (pc := 104) 3 (sv_d k_Mo_prepare 63 rfl) rfl rfl ?_
      refine ss_iald (pc := 105) (n := 60) (sv_d k_Mo_prepare 64 rfl) kd205 (ss_lt (by decide)) rfl ?_
      refine sv_iconst (pc := 106) (v := (3 : Int32)) (sv_d k_Mo_prepare 65 rfl) (by decide) ?_
      refine sv_icmp_ne (pc := 107) (tgt := 176) (sv_d k_Mo_prepare 66 rfl) (by decide) ?_ ?_
      · exact sv_loc [0, 1, 2, 3] rfl (V_Mo_prepare_b176 E d kc2 (F_Mo_prepare_b92 kc2 n) hc2 ih x1 x2 x3 s)
      · refine sv_aload_n (pc := 110) 0 (sv_d k_Mo_prepare 67 rfl) rfl rfl ?_
        refine sv_getf (pc := 111) 34 (sv_d k_Mo_prepare 68 rfl) cf12 (by decide) w1336 kd187 (ss_lt (by decide)) (lr_187_34 E _) ?_
        refine sv_iload_n (pc := 114) 3 (sv_d k_Mo_prepare 69 rfl) rfl rfl ?_
        refine ss_iald (pc := 115) (n := 60) (sv_d k_Mo_prepare 70 rfl) kd206 (ss_lt (by decide)) rfl ?_
        refine sv_iload_n (pc := 116) 2 (sv_d k_Mo_prepare 71 rfl) rfl rfl ?_
        refine sv_icmp_eq (pc := 117) (tgt := 123) (sv_d k_Mo_prepare 72 rfl) (by decide) ?_ ?_
        · refine sv_aload_n (pc := 123) 0 (sv_d k_Mo_prepare 74 rfl) rfl rfl ?_
          refine sv_getf (pc := 124) 6 (sv_d k_Mo_prepare 75 rfl) cf12 (by decide) w1308 kd187 (ss_lt (by decide)) (lr_187_6 E _) ?_
          refine sv_bipush (pc := 127) (v := (16 : Int32)) (sv_d k_Mo_prepare 76 rfl) (by decide) ?_
          refine sv_aload_n (pc := 129) 0 (sv_d k_Mo_prepare 77 rfl) rfl rfl ?_
          refine sv_getf (pc := 130) 35 (sv_d k_Mo_prepare 78 rfl) cf12 (by decide) w1337 kd187 (ss_lt (by decide)) (lr_187_35 E _) ?_
          refine sv_iload_n (pc := 133) 3 (sv_d k_Mo_prepare 79 rfl) rfl rfl ?_
          refine ss_iald (pc := 134) (n := 60) (sv_d k_Mo_prepare 80 rfl) kd207 (ss_lt (by decide)) rfl ?_
          refine sv_imul (pc := 135) (sv_d k_Mo_prepare 81 rfl) ?_
          refine sv_aload_n (pc := 136) 0 (sv_d k_Mo_prepare 82 rfl) rfl rfl ?_
          refine sv_getf (pc := 137) 36 (sv_d k_Mo_prepare 83 rfl) cf12 (by decide) w1338 kd187 (ss_lt (by decide)) (lr_187_36 E _) ?_
          refine sv_iload_n (pc := 140) 3 (sv_d k_Mo_prepare 84 rfl) rfl rfl ?_
          refine ss_iald (pc := 141) (n := 60) (sv_d k_Mo_prepare 85 rfl) kd208 (ss_lt (by decide)) rfl ?_
          refine sv_iadd (pc := 142) (sv_d k_Mo_prepare 86 rfl) ?_
          refine ss_iald (pc := 143) (n := 256) (sv_d k_Mo_prepare 87 rfl) kd192 (ss_lt (by decide)) rfl ?_
          refine ss_top (fun v7 e_v7 => ?_)
          refine sv_istore (pc := 144) (lv' := [(4, .int v7), (0, sv_r E 187), (1, .int x1), (2, .int x2), (3, .int x3)]) (sv_d k_Mo_prepare 88 rfl) (by decide) rfl ?_
          refine sv_aload_n (pc := 146) 1 (sv_d k_Mo_prepare 89 rfl) rfl rfl ?_
          refine sv_getf (pc := 147) 46 (sv_d k_Mo_prepare 90 rfl) cf12 (by decide) w1348 kd187 (ss_lt (by decide)) (lr_187_46 E _) ?_
          refine sv_iload_n (pc := 150) 4 (sv_d k_Mo_prepare 91 rfl) rfl rfl ?_
          refine sv_iload (pc := 151) 0 (sv_d k_Mo_prepare 92 rfl) rfl ?_
          refine sv_ldcw (pc := 153) (v := (100000 : Int32)) w1573 (sv_d k_Mo_prepare 93 rfl) ?_
          refine sv_icmp_ge (pc := 156) (tgt := 174) (sv_d k_Mo_prepare 94 rfl) (by decide) ?_ ?_
          · refine sv_iconst (pc := 174) (v := (-1 : Int32)) (sv_d k_Mo_prepare 104 rfl) (by decide) ?_
            exact sv_loc [1, 2, 3, 4] rfl (V_Mo_prepare_b175 E d kc2 (F_Mo_prepare_b92 kc2 n) hc2 ih x1 x2 x3 x3 (-1 : Int32) s)
          · refine sv_iload (pc := 159) 0 (sv_d k_Mo_prepare 95 rfl) rfl ?_
            refine sv_aload_n (pc := 161) 1 (sv_d k_Mo_prepare 96 rfl) rfl rfl ?_
            refine sv_getf (pc := 162) 37 (sv_d k_Mo_prepare 97 rfl) cf12 (by decide) w1339 kd187 (ss_lt (by decide)) (lr_187_37 E _) ?_
            refine sv_iload_n (pc := 165) 4 (sv_d k_Mo_prepare 98 rfl) rfl rfl ?_
            refine ss_iald (pc := 166) (n := 60) (sv_d k_Mo_prepare 99 rfl) kd209 (ss_lt (by decide)) rfl ?_
            refine sv_imul (pc := 167) (sv_d k_Mo_prepare 100 rfl) ?_
            refine sv_bipush (pc := 168) (v := (10 : Int32)) (sv_d k_Mo_prepare 101 rfl) (by decide) ?_
            refine sv_idivK (pc := 170) (sv_d k_Mo_prepare 102 rfl) (by decide) ?_
            refine sv_goto (pc := 171) (tgt := 175) (sv_d k_Mo_prepare 103 rfl) (by decide) ?_
            exact sv_loc [1, 2, 3, 4] rfl (V_Mo_prepare_b175 E d kc2 (F_Mo_prepare_b92 kc2 n) hc2 ih x1 x2 x3 x3 ((v7 * (s.1 209 x3.toNatClampNeg)) / (10 : Int32)) s)
        · refine sv_goto (pc := 120) (tgt := 176) (sv_d k_Mo_prepare 73 rfl) (by decide) ?_
          exact sv_loc [0, 1, 2, 3] rfl (V_Mo_prepare_b176 E d kc2 (F_Mo_prepare_b92 kc2 n) hc2 ih x1 x2 x3 s)
def F_Mo_prepare_b56 (kc2 : Int32 → Int32 → sv_S → Option (sv_S)) : Nat → Int32 → Int32 → Int32 → sv_S → Option (sv_S)
  | 0 => fun _ _ _ _ => none
  | n + 1 => fun x1 x2 x3 s =>
    if (20 : Int32) ≤ x3 then
      (F_Mo_findFar x2 s).bind fun r4 =>
      F_Mo_prepare_b92 kc2 ss_F x1 x2 (0 : Int32) r4
    else
    if sv_ib x3 20 = true then
      if sv_ib (((20 : Int32) * x2) + x3) 120 = true then
        ss_let (ss_setI s 217 (((20 : Int32) * x2) + x3).toNatClampNeg (s.1 199 x3.toNatClampNeg)) fun s9 =>
        ss_let (x3 + (1 : Int32)) fun v10 =>
        F_Mo_prepare_b56 kc2 n x1 x2 v10 s9
      else none
    else none
theorem V_Mo_prepare_b56 (E : sv_E) (d : Nat) (kc2 : Int32 → Int32 → sv_S → Option (sv_S)) (hc2 : ∀ (x1 : Int32) (x2 : Int32) (s : sv_S), sv_V E m_Mo_prepare (d + 8) ss_v 2 [(0, sv_r E 187), (1, .int x1), (2, .int x2)] [] (ss_e s) (kc2 x1 x2 s)) : ∀ (n : Nat) (x1 : Int32) (x2 : Int32) (x3 : Int32) (s : sv_S), sv_V E m_Mo_prepare (d + 8) ss_v 56 [(0, sv_r E 187), (1, .int x1), (2, .int x2), (3, .int x3)] [] (ss_e s) (F_Mo_prepare_b56 kc2 n x1 x2 x3 s) := by
  intro n
  induction n with
  | zero => intro x1 x2 x3 s; exact sv_none
  | succ n ih =>
    intro x1 x2 x3 s
    unfold F_Mo_prepare_b56
    refine sv_iload_n (pc := 56) 3 (sv_d k_Mo_prepare 35 rfl) rfl rfl ?_
    refine sv_bipush (pc := 57) (v := (20 : Int32)) (sv_d k_Mo_prepare 36 rfl) (by decide) ?_
    refine sv_icmp_ge (pc := 59) (tgt := 85) (sv_d k_Mo_prepare 37 rfl) (by decide) ?_ ?_
    · refine sv_aload_n (pc := 85) 0 (sv_d k_Mo_prepare 52 rfl) rfl rfl ?_
      refine sv_iload_n (pc := 86) 2 (sv_d k_Mo_prepare 53 rfl) rfl rfl ?_
      refine sv_callV (pc := 87) (ψ := ss_v) (As := [.int x2]) (rest := []) (c := 187) (sv_d k_Mo_prepare 54 rfl) g_Mo_findFar w1569 in_Mo_findFar se_Mo_findFar cf12 kd187 (ss_lt (by decide)) rfl (Nat.le_of_ble_eq_true rfl) (V_Mo_findFar E (d + 7) x2 s) (Nat.le_of_ble_eq_true rfl) rfl (fun r4 => ?_)
      show sv_V E _ _ _ 90 _ [] (ss_e r4) _
      refine sv_iconst (pc := 90) (v := (0 : Int32)) (sv_d k_Mo_prepare 55 rfl) (by decide) ?_
      refine sv_istore_n (pc := 91) (lv' := [(3, .int (0 : Int32)), (0, sv_r E 187), (1, .int x1), (2, .int x2)]) (sv_d k_Mo_prepare 56 rfl) rfl (by decide) rfl ?_
      exact sv_loc [1, 2, 3, 0] rfl (V_Mo_prepare_b92 E d kc2 hc2 ss_F x1 x2 (0 : Int32) r4)
    · refine sv_aload_n (pc := 62) 0 (sv_d k_Mo_prepare 38 rfl) rfl rfl ?_
      refine sv_getf (pc := 63) 45 (sv_d k_Mo_prepare 39 rfl) cf12 (by decide) w1347 kd187 (ss_lt (by decide)) (lr_187_45 E _) ?_
      refine sv_bipush (pc := 66) (v := (20 : Int32)) (sv_d k_Mo_prepare 40 rfl) (by decide) ?_
      refine sv_iload_n (pc := 68) 2 (sv_d k_Mo_prepare 41 rfl) rfl rfl ?_
      refine sv_imul (pc := 69) (sv_d k_Mo_prepare 42 rfl) ?_
      refine sv_iload_n (pc := 70) 3 (sv_d k_Mo_prepare 43 rfl) rfl rfl ?_
      refine sv_iadd (pc := 71) (sv_d k_Mo_prepare 44 rfl) ?_
      refine sv_aload_n (pc := 72) 0 (sv_d k_Mo_prepare 45 rfl) rfl rfl ?_
      refine sv_getf (pc := 73) 16 (sv_d k_Mo_prepare 46 rfl) cf12 (by decide) w1318 kd187 (ss_lt (by decide)) (lr_187_16 E _) ?_
      refine sv_iload_n (pc := 76) 3 (sv_d k_Mo_prepare 47 rfl) rfl rfl ?_
      refine ss_iald (pc := 77) (n := 20) (sv_d k_Mo_prepare 48 rfl) kd199 (ss_lt (by decide)) rfl ?_
      refine ss_iast (pc := 78) (n := 120) (sv_d k_Mo_prepare 49 rfl) kd217 (by decide) (ss_lt (by decide)) rfl (ss_lets (fun s9 e_s9 => ?_))
      refine ss_letr (fun v10 e_v10 => ?_)
      refine sv_iinc (pc := 79) (v := v10) (lv' := [(3, .int v10), (0, sv_r E 187), (1, .int x1), (2, .int x2)]) (sv_d k_Mo_prepare 50 rfl) (n := 3) rfl (by rw [e_v10]; rfl) (by decide) rfl ?_
      refine sv_goto (pc := 82) (tgt := 56) (sv_d k_Mo_prepare 51 rfl) (by decide) ?_
      exact sv_loc [1, 2, 3, 0] rfl (ih x1 x2 v10 s9)
def F_Mo_prepare_b53 (kc2 : Int32 → Int32 → sv_S → Option (sv_S)) (x1 : Int32) (x2 : Int32) (t1 : Int32) (t2 : Int32) (s : sv_S) : Option (sv_S) :=
  if sv_ib t1 6 = true then
    ss_let (ss_setI s 215 t1.toNatClampNeg t2) fun s3 =>
    F_Mo_prepare_b56 kc2 ss_F x1 x2 (0 : Int32) s3
  else none
theorem V_Mo_prepare_b53 (E : sv_E) (d : Nat) (kc2 : Int32 → Int32 → sv_S → Option (sv_S)) (hc2 : ∀ (x1 : Int32) (x2 : Int32) (s : sv_S), sv_V E m_Mo_prepare (d + 8) ss_v 2 [(0, sv_r E 187), (1, .int x1), (2, .int x2)] [] (ss_e s) (kc2 x1 x2 s)) (x1 : Int32) (x2 : Int32) (t1 : Int32) (t2 : Int32) (s : sv_S) : sv_V E m_Mo_prepare (d + 8) ss_v 53 [(0, sv_r E 187), (1, .int x1), (2, .int x2)] [.int t2, .int t1, sv_r E 215] (ss_e s) (F_Mo_prepare_b53 kc2 x1 x2 t1 t2 s) := by
  unfold F_Mo_prepare_b53
  refine ss_iast (pc := 53) (n := 6) (sv_d k_Mo_prepare 32 rfl) kd215 (by decide) (ss_lt (by decide)) rfl (ss_lets (fun s3 e_s3 => ?_))
  refine sv_iconst (pc := 54) (v := (0 : Int32)) (sv_d k_Mo_prepare 33 rfl) (by decide) ?_
  refine sv_istore_n (pc := 55) (lv' := [(3, .int (0 : Int32)), (0, sv_r E 187), (1, .int x1), (2, .int x2)]) (sv_d k_Mo_prepare 34 rfl) rfl (by decide) rfl ?_
  exact sv_loc [1, 2, 3, 0] rfl (V_Mo_prepare_b56 E d kc2 hc2 ss_F x1 x2 (0 : Int32) s3)
def F_Mo_prepare_b2 : Nat → Int32 → Int32 → sv_S → Option (sv_S)
  | 0 => fun _ _ _ => none
  | n + 1 => fun x1 x2 s =>
    if (6 : Int32) ≤ x2 then
      some s
    else
    (F_Mo_look x2 x1 s).bind fun r1 =>
    if sv_ib (0 : Int32) 5 = true then
      if sv_ib x2 6 = true then
        ss_let (ss_setI r1 216 x2.toNatClampNeg (r1.1 201 (0 : Int32).toNatClampNeg)) fun s2 =>
        if sv_ib (1 : Int32) 5 = true then
          if (s2.1 201 (1 : Int32).toNatClampNeg) ≤ (99 : Int32) then
            if sv_ib (1 : Int32) 5 = true then
              F_Mo_prepare_b53 (F_Mo_prepare_b2  n) x1 x2 x2 (s2.1 201 (1 : Int32).toNatClampNeg) s2
            else none
          else
          F_Mo_prepare_b53 (F_Mo_prepare_b2  n) x1 x2 x2 (99 : Int32) s2
        else none
      else none
    else none
theorem V_Mo_prepare_b2 (E : sv_E) (d : Nat) : ∀ (n : Nat) (x1 : Int32) (x2 : Int32) (s : sv_S), sv_V E m_Mo_prepare (d + 8) ss_v 2 [(0, sv_r E 187), (1, .int x1), (2, .int x2)] [] (ss_e s) (F_Mo_prepare_b2 n x1 x2 s) := by
  intro n
  induction n with
  | zero => intro x1 x2 s; exact sv_none
  | succ n ih =>
    intro x1 x2 s
    unfold F_Mo_prepare_b2
    refine sv_iload_n (pc := 2) 2 (sv_d k_Mo_prepare 2 rfl) rfl rfl ?_
    refine sv_bipush (pc := 3) (v := (6 : Int32)) (sv_d k_Mo_prepare 3 rfl) (by decide) ?_
    refine sv_icmp_ge (pc := 5) (tgt := 188) (sv_d k_Mo_prepare 4 rfl) (by decide) ?_ ?_
    · exact sv_retv (pc := 188) (sv_d k_Mo_prepare 110 rfl) rfl rfl
    · refine sv_aload_n (pc := 8) 0 (sv_d k_Mo_prepare 5 rfl) rfl rfl ?_
      refine sv_iload_n (pc := 9) 2 (sv_d k_Mo_prepare 6 rfl) rfl rfl ?_
      refine sv_iload_n (pc := 10) 1 (sv_d k_Mo_prepare 7 rfl) rfl rfl ?_
      refine sv_callV (pc := 11) (ψ := ss_v) (As := [.int x2, .int x1]) (rest := []) (c := 187) (sv_d k_Mo_prepare 8 rfl) g_Mo_look w1670 in_Mo_look se_Mo_look cf12 kd187 (ss_lt (by decide)) rfl (Nat.le_of_ble_eq_true rfl) (V_Mo_look E (d + 0) x2 x1 s) (Nat.le_of_ble_eq_true rfl) rfl (fun r1 => ?_)
      show sv_V E _ _ _ 14 _ [] (ss_e r1) _
      refine sv_aload_n (pc := 14) 0 (sv_d k_Mo_prepare 9 rfl) rfl rfl ?_
      refine sv_getf (pc := 15) 44 (sv_d k_Mo_prepare 10 rfl) cf12 (by decide) w1346 kd187 (ss_lt (by decide)) (lr_187_44 E _) ?_
      refine sv_iload_n (pc := 18) 2 (sv_d k_Mo_prepare 11 rfl) rfl rfl ?_
      refine sv_aload_n (pc := 19) 0 (sv_d k_Mo_prepare 12 rfl) rfl rfl ?_
      refine sv_getf (pc := 20) 18 (sv_d k_Mo_prepare 13 rfl) cf12 (by decide) w1320 kd187 (ss_lt (by decide)) (lr_187_18 E _) ?_
      refine sv_iconst (pc := 23) (v := (0 : Int32)) (sv_d k_Mo_prepare 14 rfl) (by decide) ?_
      refine ss_iald (pc := 24) (n := 5) (sv_d k_Mo_prepare 15 rfl) kd201 (ss_lt (by decide)) rfl ?_
      refine ss_iast (pc := 25) (n := 6) (sv_d k_Mo_prepare 16 rfl) kd216 (by decide) (ss_lt (by decide)) rfl (ss_lets (fun s2 e_s2 => ?_))
      refine sv_aload_n (pc := 26) 0 (sv_d k_Mo_prepare 17 rfl) rfl rfl ?_
      refine sv_getf (pc := 27) 43 (sv_d k_Mo_prepare 18 rfl) cf12 (by decide) w1345 kd187 (ss_lt (by decide)) (lr_187_43 E _) ?_
      refine sv_iload_n (pc := 30) 2 (sv_d k_Mo_prepare 19 rfl) rfl rfl ?_
      refine sv_aload_n (pc := 31) 0 (sv_d k_Mo_prepare 20 rfl) rfl rfl ?_
      refine sv_getf (pc := 32) 18 (sv_d k_Mo_prepare 21 rfl) cf12 (by decide) w1320 kd187 (ss_lt (by decide)) (lr_187_18 E _) ?_
      refine sv_iconst (pc := 35) (v := (1 : Int32)) (sv_d k_Mo_prepare 22 rfl) (by decide) ?_
      refine ss_iald (pc := 36) (n := 5) (sv_d k_Mo_prepare 23 rfl) kd201 (ss_lt (by decide)) rfl ?_
      refine sv_bipush (pc := 37) (v := (99 : Int32)) (sv_d k_Mo_prepare 24 rfl) (by decide) ?_
      refine sv_icmp_le (pc := 39) (tgt := 47) (sv_d k_Mo_prepare 25 rfl) (by decide) ?_ ?_
      · refine sv_aload_n (pc := 47) 0 (sv_d k_Mo_prepare 28 rfl) rfl rfl ?_
        refine sv_getf (pc := 48) 18 (sv_d k_Mo_prepare 29 rfl) cf12 (by decide) w1320 kd187 (ss_lt (by decide)) (lr_187_18 E _) ?_
        refine sv_iconst (pc := 51) (v := (1 : Int32)) (sv_d k_Mo_prepare 30 rfl) (by decide) ?_
        refine ss_iald (pc := 52) (n := 5) (sv_d k_Mo_prepare 31 rfl) kd201 (ss_lt (by decide)) rfl ?_
        exact sv_loc [0, 1, 2] rfl (V_Mo_prepare_b53 E d (F_Mo_prepare_b2  n) ih x1 x2 x2 (s2.1 201 (1 : Int32).toNatClampNeg) s2)
      · refine sv_bipush (pc := 42) (v := (99 : Int32)) (sv_d k_Mo_prepare 26 rfl) (by decide) ?_
        refine sv_goto (pc := 44) (tgt := 53) (sv_d k_Mo_prepare 27 rfl) (by decide) ?_
        exact sv_loc [0, 1, 2] rfl (V_Mo_prepare_b53 E d (F_Mo_prepare_b2  n) ih x1 x2 x2 (99 : Int32) s2)
def F_Mo_prepare (x1 : Int32) (s : sv_S) : Option (sv_S) :=
  F_Mo_prepare_b2 ss_F x1 (0 : Int32) s
theorem V_Mo_prepare (E : sv_E) (d : Nat) (x1 : Int32) (s : sv_S) : sv_V E m_Mo_prepare (d + 8) ss_v 0 (lv_args 0 [sv_r E 187, .int x1]) [] (ss_e s) (F_Mo_prepare x1 s) := by
  show sv_V E m_Mo_prepare (d + 8) ss_v 0 [(0, sv_r E 187), (1, .int x1)] [] (ss_e s) _
  unfold F_Mo_prepare
  refine sv_iconst (pc := 0) (v := (0 : Int32)) (sv_d k_Mo_prepare 0 rfl) (by decide) ?_
  refine sv_istore_n (pc := 1) (lv' := [(2, .int (0 : Int32)), (0, sv_r E 187), (1, .int x1)]) (sv_d k_Mo_prepare 1 rfl) rfl (by decide) rfl ?_
  exact sv_loc [1, 2, 0] rfl (V_Mo_prepare_b2 E d ss_F x1 (0 : Int32) s)
/-! Mo_chargeOf -/
abbrev m_Mo_chargeOf : sv_M := (yX12_chargeOf, cX12_chargeOf, 7, (some .int))
def t_Mo_chargeOf : List (Nat × Instr × Nat) := [(0, .iload 4, 2), (2, .aload_n 0, 1), (3, .getfield 130, 3), (6, .iload_n 1, 1), (7, .iaload, 1), (8, .if_icmp .lt 23, 3), (11, .aload_n 0, 1), (12, .getfield 133, 3), (15, .iload_n 1, 1), (16, .iaload, 1), (17, .ifCond .lt 16, 3), (20, .iload 4, 2), (22, .aload_n 0, 1), (23, .getfield 133, 3), (26, .iload_n 1, 1), (27, .iaload, 1), (28, .if_icmp .lt 5, 3), (31, .iconst (-1), 1), (32, .ireturn, 1), (33, .aload_n 0, 1), (34, .getfield 112, 3), (37, .iload_n 1, 1), (38, .iaload, 1), (39, .iconst 2, 1), (40, .if_icmp .ne 26, 3), (43, .aload_n 0, 1), (44, .getfield 127, 3), (47, .iload_n 1, 1), (48, .iaload, 1), (49, .iload_n 2, 1), (50, .if_icmp .ne 41, 3), (53, .iload_n 3, 1), (54, .aload_n 0, 1), (55, .getfield 136, 3), (58, .iload_n 1, 1), (59, .iaload, 1), (60, .if_icmp .ge 33, 3), (63, .goto 28, 3), (66, .aload_n 0, 1), (67, .getfield 148, 3), (70, .bipush 20, 2), (72, .aload_n 0, 1), (73, .getfield 115, 3), (76, .iload_n 1, 1), (77, .iaload, 1), (78, .imul, 1), (79, .iload_n 2, 1), (80, .iadd, 1), (81, .iaload, 1), (82, .aload_n 0, 1), (83, .getfield 127, 3), (86, .iload_n 1, 1), (87, .iaload, 1), (88, .if_icmp .eq 5, 3), (91, .iconst (-1), 1), (92, .ireturn, 1), (93, .aload_n 0, 1), (94, .getfield 112, 3), (97, .iload_n 1, 1), (98, .iaload, 1), (99, .iconst 3, 1), (100, .if_icmp .ne 12, 3), (103, .aload_n 0, 1), (104, .getfield 151, 3), (107, .iload_n 1, 1), (108, .iaload, 1), (109, .goto 9, 3), (112, .aload_n 0, 1), (113, .getfield 124, 3), (116, .iload_n 1, 1), (117, .iaload, 1), (118, .istore 5, 2), (120, .iload 5, 2), (122, .ifCond .ge 5, 3), (125, .iconst (-1), 1), (126, .ireturn, 1), (127, .iload_n 3, 1), (128, .aload_n 0, 1), (129, .getfield 142, 3), (132, .aload_n 0, 1), (133, .getfield 115, 3), (136, .iload_n 1, 1), (137, .iaload, 1), (138, .iaload, 1), (139, .if_icmp .le 7, 3), (142, .iload_n 3, 1), (143, .goto 14, 3), (146, .aload_n 0, 1), (147, .getfield 142, 3), (150, .aload_n 0, 1), (151, .getfield 115, 3), (154, .iload_n 1, 1), (155, .iaload, 1), (156, .iaload, 1), (157, .istore 6, 2), (159, .iload 6, 2), (161, .iload 5, 2), (163, .aload_n 0, 1), (164, .getfield 145, 3), (167, .aload_n 0, 1), (168, .getfield 115, 3), (171, .iload_n 1, 1), (172, .iaload, 1), (173, .iaload, 1), (174, .iadd, 1), (175, .imul, 1), (176, .ireturn, 1)]
theorem k_Mo_chargeOf : sv_tk m_Mo_chargeOf.2.1 t_Mo_chargeOf := by decide +kernel
theorem g_Mo_chargeOf : sv_G m_Mo_chargeOf 4 := ⟨by decide +kernel, sv_in 1741 (by decide +kernel) rfl, sv_in 103 (by decide +kernel) rfl, ⟨by decide, by decide⟩, by decide +kernel, by decide⟩
theorem in_Mo_chargeOf : Cond.instanceMethod m_Mo_chargeOf.1 ∈ sv_T := sv_in 1740 (by decide +kernel) rfl
theorem se_Mo_chargeOf : Cond.selects m_Mo_chargeOf.1.cls m_Mo_chargeOf.1 m_Mo_chargeOf.1 ∈ sv_T := sv_in 66 (by decide +kernel) rfl
def F_Mo_chargeOf_b157 (s : sv_S) (x1 : Int32) (x5 : Int32) (t0 : Int32) : Option (Int32) :=
  if sv_ib x1 60 = true then
    if sv_ib (s.1 206 x1.toNatClampNeg) 6 = true then
      some (t0 * (x5 + (s.1 216 (s.1 206 x1.toNatClampNeg).toNatClampNeg)))
    else none
  else none
theorem V_Mo_chargeOf_b157 (E : sv_E) (d : Nat) (s : sv_S) (x1 : Int32) (x5 : Int32) (t0 : Int32) : sv_V E m_Mo_chargeOf (d + 0) (ss_pi s) 157 [(0, sv_r E 187), (1, .int x1), (5, .int x5)] [.int t0] (ss_e s) (F_Mo_chargeOf_b157 s x1 x5 t0) := by
  unfold F_Mo_chargeOf_b157
  refine sv_istore (pc := 157) (lv' := [(6, .int t0), (0, sv_r E 187), (1, .int x1), (5, .int x5)]) (sv_d k_Mo_chargeOf 94 rfl) (by decide) rfl ?_
  refine sv_iload (pc := 159) 0 (sv_d k_Mo_chargeOf 95 rfl) rfl ?_
  refine sv_iload (pc := 161) 3 (sv_d k_Mo_chargeOf 96 rfl) rfl ?_
  refine sv_aload_n (pc := 163) 1 (sv_d k_Mo_chargeOf 97 rfl) rfl rfl ?_
  refine sv_getf (pc := 164) 44 (sv_d k_Mo_chargeOf 98 rfl) cf12 (by decide) w1346 kd187 (ss_lt (by decide)) (lr_187_44 E _) ?_
  refine sv_aload_n (pc := 167) 1 (sv_d k_Mo_chargeOf 99 rfl) rfl rfl ?_
  refine sv_getf (pc := 168) 34 (sv_d k_Mo_chargeOf 100 rfl) cf12 (by decide) w1336 kd187 (ss_lt (by decide)) (lr_187_34 E _) ?_
  refine sv_iload_n (pc := 171) 2 (sv_d k_Mo_chargeOf 101 rfl) rfl rfl ?_
  refine ss_iald (pc := 172) (n := 60) (sv_d k_Mo_chargeOf 102 rfl) kd206 (ss_lt (by decide)) rfl ?_
  refine ss_iald (pc := 173) (n := 6) (sv_d k_Mo_chargeOf 103 rfl) kd216 (ss_lt (by decide)) rfl ?_
  refine sv_iadd (pc := 174) (sv_d k_Mo_chargeOf 104 rfl) ?_
  refine sv_imul (pc := 175) (sv_d k_Mo_chargeOf 105 rfl) ?_
  exact sv_ret (pc := 176) (sv_d k_Mo_chargeOf 106 rfl) ⟨_, rfl, rfl⟩ rfl
def F_Mo_chargeOf_b118 (s : sv_S) (x1 : Int32) (x3 : Int32) (t0 : Int32) : Option (Int32) :=
  if 0 ≤ t0 then
    if sv_ib x1 60 = true then
      if sv_ib (s.1 206 x1.toNatClampNeg) 6 = true then
        if x3 ≤ (s.1 215 (s.1 206 x1.toNatClampNeg).toNatClampNeg) then
          if sv_ib x1 60 = true then
            if sv_ib (s.1 206 x1.toNatClampNeg) 6 = true then
              F_Mo_chargeOf_b157 s x1 t0 (s.1 215 (s.1 206 x1.toNatClampNeg).toNatClampNeg)
            else none
          else none
        else
        F_Mo_chargeOf_b157 s x1 t0 x3
      else none
    else none
  else
  some (-1 : Int32)
theorem V_Mo_chargeOf_b118 (E : sv_E) (d : Nat) (s : sv_S) (x1 : Int32) (x3 : Int32) (t0 : Int32) : sv_V E m_Mo_chargeOf (d + 0) (ss_pi s) 118 [(0, sv_r E 187), (1, .int x1), (3, .int x3)] [.int t0] (ss_e s) (F_Mo_chargeOf_b118 s x1 x3 t0) := by
  unfold F_Mo_chargeOf_b118
  refine sv_istore (pc := 118) (lv' := [(5, .int t0), (0, sv_r E 187), (1, .int x1), (3, .int x3)]) (sv_d k_Mo_chargeOf 71 rfl) (by decide) rfl ?_
  refine sv_iload (pc := 120) 0 (sv_d k_Mo_chargeOf 72 rfl) rfl ?_
  refine sv_if_ge (pc := 122) (tgt := 127) (sv_d k_Mo_chargeOf 73 rfl) (by decide) ?_ ?_
  · refine sv_iload_n (pc := 127) 3 (sv_d k_Mo_chargeOf 76 rfl) rfl rfl ?_
    refine sv_aload_n (pc := 128) 1 (sv_d k_Mo_chargeOf 77 rfl) rfl rfl ?_
    refine sv_getf (pc := 129) 43 (sv_d k_Mo_chargeOf 78 rfl) cf12 (by decide) w1345 kd187 (ss_lt (by decide)) (lr_187_43 E _) ?_
    refine sv_aload_n (pc := 132) 1 (sv_d k_Mo_chargeOf 79 rfl) rfl rfl ?_
    refine sv_getf (pc := 133) 34 (sv_d k_Mo_chargeOf 80 rfl) cf12 (by decide) w1336 kd187 (ss_lt (by decide)) (lr_187_34 E _) ?_
    refine sv_iload_n (pc := 136) 2 (sv_d k_Mo_chargeOf 81 rfl) rfl rfl ?_
    refine ss_iald (pc := 137) (n := 60) (sv_d k_Mo_chargeOf 82 rfl) kd206 (ss_lt (by decide)) rfl ?_
    refine ss_iald (pc := 138) (n := 6) (sv_d k_Mo_chargeOf 83 rfl) kd215 (ss_lt (by decide)) rfl ?_
    refine sv_icmp_le (pc := 139) (tgt := 146) (sv_d k_Mo_chargeOf 84 rfl) (by decide) ?_ ?_
    · refine sv_aload_n (pc := 146) 1 (sv_d k_Mo_chargeOf 87 rfl) rfl rfl ?_
      refine sv_getf (pc := 147) 43 (sv_d k_Mo_chargeOf 88 rfl) cf12 (by decide) w1345 kd187 (ss_lt (by decide)) (lr_187_43 E _) ?_
      refine sv_aload_n (pc := 150) 1 (sv_d k_Mo_chargeOf 89 rfl) rfl rfl ?_
      refine sv_getf (pc := 151) 34 (sv_d k_Mo_chargeOf 90 rfl) cf12 (by decide) w1336 kd187 (ss_lt (by decide)) (lr_187_34 E _) ?_
      refine sv_iload_n (pc := 154) 2 (sv_d k_Mo_chargeOf 91 rfl) rfl rfl ?_
      refine ss_iald (pc := 155) (n := 60) (sv_d k_Mo_chargeOf 92 rfl) kd206 (ss_lt (by decide)) rfl ?_
      refine ss_iald (pc := 156) (n := 6) (sv_d k_Mo_chargeOf 93 rfl) kd215 (ss_lt (by decide)) rfl ?_
      exact sv_loc [1, 2, 0] rfl (V_Mo_chargeOf_b157 E d s x1 t0 (s.1 215 (s.1 206 x1.toNatClampNeg).toNatClampNeg))
    · refine sv_iload_n (pc := 142) 3 (sv_d k_Mo_chargeOf 85 rfl) rfl rfl ?_
      refine sv_goto (pc := 143) (tgt := 157) (sv_d k_Mo_chargeOf 86 rfl) (by decide) ?_
      exact sv_loc [1, 2, 0] rfl (V_Mo_chargeOf_b157 E d s x1 t0 x3)
  · refine sv_iconst (pc := 125) (v := (-1 : Int32)) (sv_d k_Mo_chargeOf 74 rfl) (by decide) ?_
    exact sv_ret (pc := 126) (sv_d k_Mo_chargeOf 75 rfl) ⟨_, rfl, rfl⟩ rfl
def F_Mo_chargeOf_b93 (s : sv_S) (x1 : Int32) (x3 : Int32) : Option (Int32) :=
  if sv_ib x1 60 = true then
    if (s.1 205 x1.toNatClampNeg) = (3 : Int32) then
      if sv_ib x1 60 = true then
        F_Mo_chargeOf_b118 s x1 x3 (s.1 218 x1.toNatClampNeg)
      else none
    else
    if sv_ib x1 60 = true then
      F_Mo_chargeOf_b118 s x1 x3 (s.1 209 x1.toNatClampNeg)
    else none
  else none
theorem V_Mo_chargeOf_b93 (E : sv_E) (d : Nat) (s : sv_S) (x1 : Int32) (x3 : Int32) : sv_V E m_Mo_chargeOf (d + 0) (ss_pi s) 93 [(0, sv_r E 187), (1, .int x1), (3, .int x3)] [] (ss_e s) (F_Mo_chargeOf_b93 s x1 x3) := by
  unfold F_Mo_chargeOf_b93
  refine sv_aload_n (pc := 93) 0 (sv_d k_Mo_chargeOf 56 rfl) rfl rfl ?_
  refine sv_getf (pc := 94) 33 (sv_d k_Mo_chargeOf 57 rfl) cf12 (by decide) w1335 kd187 (ss_lt (by decide)) (lr_187_33 E _) ?_
  refine sv_iload_n (pc := 97) 1 (sv_d k_Mo_chargeOf 58 rfl) rfl rfl ?_
  refine ss_iald (pc := 98) (n := 60) (sv_d k_Mo_chargeOf 59 rfl) kd205 (ss_lt (by decide)) rfl ?_
  refine sv_iconst (pc := 99) (v := (3 : Int32)) (sv_d k_Mo_chargeOf 60 rfl) (by decide) ?_
  refine sv_icmp_ne (pc := 100) (tgt := 112) (sv_d k_Mo_chargeOf 61 rfl) (by decide) ?_ ?_
  · refine sv_aload_n (pc := 112) 0 (sv_d k_Mo_chargeOf 67 rfl) rfl rfl ?_
    refine sv_getf (pc := 113) 37 (sv_d k_Mo_chargeOf 68 rfl) cf12 (by decide) w1339 kd187 (ss_lt (by decide)) (lr_187_37 E _) ?_
    refine sv_iload_n (pc := 116) 1 (sv_d k_Mo_chargeOf 69 rfl) rfl rfl ?_
    refine ss_iald (pc := 117) (n := 60) (sv_d k_Mo_chargeOf 70 rfl) kd209 (ss_lt (by decide)) rfl ?_
    exact sv_loc [0, 1, 2] rfl (V_Mo_chargeOf_b118 E d s x1 x3 (s.1 209 x1.toNatClampNeg))
  · refine sv_aload_n (pc := 103) 0 (sv_d k_Mo_chargeOf 62 rfl) rfl rfl ?_
    refine sv_getf (pc := 104) 46 (sv_d k_Mo_chargeOf 63 rfl) cf12 (by decide) w1348 kd187 (ss_lt (by decide)) (lr_187_46 E _) ?_
    refine sv_iload_n (pc := 107) 1 (sv_d k_Mo_chargeOf 64 rfl) rfl rfl ?_
    refine ss_iald (pc := 108) (n := 60) (sv_d k_Mo_chargeOf 65 rfl) kd218 (ss_lt (by decide)) rfl ?_
    refine sv_goto (pc := 109) (tgt := 118) (sv_d k_Mo_chargeOf 66 rfl) (by decide) ?_
    exact sv_loc [0, 1, 2] rfl (V_Mo_chargeOf_b118 E d s x1 x3 (s.1 218 x1.toNatClampNeg))
def F_Mo_chargeOf_b33 (s : sv_S) (x1 : Int32) (x2 : Int32) (x3 : Int32) : Option (Int32) :=
  if sv_ib x1 60 = true then
    if (s.1 205 x1.toNatClampNeg) = (2 : Int32) then
      if sv_ib x1 60 = true then
        if (s.1 210 x1.toNatClampNeg) = x2 then
          if sv_ib x1 60 = true then
            if (s.1 213 x1.toNatClampNeg) ≤ x3 then
              F_Mo_chargeOf_b93 s x1 x3
            else
            some (-1 : Int32)
          else none
        else
        some (-1 : Int32)
      else none
    else
    if sv_ib x1 60 = true then
      if sv_ib (((20 : Int32) * (s.1 206 x1.toNatClampNeg)) + x2) 120 = true then
        if sv_ib x1 60 = true then
          if (s.1 217 (((20 : Int32) * (s.1 206 x1.toNatClampNeg)) + x2).toNatClampNeg) = (s.1 210 x1.toNatClampNeg) then
            F_Mo_chargeOf_b93 s x1 x3
          else
          some (-1 : Int32)
        else none
      else none
    else none
  else none
theorem V_Mo_chargeOf_b33 (E : sv_E) (d : Nat) (s : sv_S) (x1 : Int32) (x2 : Int32) (x3 : Int32) : sv_V E m_Mo_chargeOf (d + 0) (ss_pi s) 33 [(0, sv_r E 187), (1, .int x1), (2, .int x2), (3, .int x3)] [] (ss_e s) (F_Mo_chargeOf_b33 s x1 x2 x3) := by
  unfold F_Mo_chargeOf_b33
  refine sv_aload_n (pc := 33) 0 (sv_d k_Mo_chargeOf 19 rfl) rfl rfl ?_
  refine sv_getf (pc := 34) 33 (sv_d k_Mo_chargeOf 20 rfl) cf12 (by decide) w1335 kd187 (ss_lt (by decide)) (lr_187_33 E _) ?_
  refine sv_iload_n (pc := 37) 1 (sv_d k_Mo_chargeOf 21 rfl) rfl rfl ?_
  refine ss_iald (pc := 38) (n := 60) (sv_d k_Mo_chargeOf 22 rfl) kd205 (ss_lt (by decide)) rfl ?_
  refine sv_iconst (pc := 39) (v := (2 : Int32)) (sv_d k_Mo_chargeOf 23 rfl) (by decide) ?_
  refine sv_icmp_ne (pc := 40) (tgt := 66) (sv_d k_Mo_chargeOf 24 rfl) (by decide) ?_ ?_
  · refine sv_aload_n (pc := 66) 0 (sv_d k_Mo_chargeOf 38 rfl) rfl rfl ?_
    refine sv_getf (pc := 67) 45 (sv_d k_Mo_chargeOf 39 rfl) cf12 (by decide) w1347 kd187 (ss_lt (by decide)) (lr_187_45 E _) ?_
    refine sv_bipush (pc := 70) (v := (20 : Int32)) (sv_d k_Mo_chargeOf 40 rfl) (by decide) ?_
    refine sv_aload_n (pc := 72) 0 (sv_d k_Mo_chargeOf 41 rfl) rfl rfl ?_
    refine sv_getf (pc := 73) 34 (sv_d k_Mo_chargeOf 42 rfl) cf12 (by decide) w1336 kd187 (ss_lt (by decide)) (lr_187_34 E _) ?_
    refine sv_iload_n (pc := 76) 1 (sv_d k_Mo_chargeOf 43 rfl) rfl rfl ?_
    refine ss_iald (pc := 77) (n := 60) (sv_d k_Mo_chargeOf 44 rfl) kd206 (ss_lt (by decide)) rfl ?_
    refine sv_imul (pc := 78) (sv_d k_Mo_chargeOf 45 rfl) ?_
    refine sv_iload_n (pc := 79) 2 (sv_d k_Mo_chargeOf 46 rfl) rfl rfl ?_
    refine sv_iadd (pc := 80) (sv_d k_Mo_chargeOf 47 rfl) ?_
    refine ss_iald (pc := 81) (n := 120) (sv_d k_Mo_chargeOf 48 rfl) kd217 (ss_lt (by decide)) rfl ?_
    refine sv_aload_n (pc := 82) 0 (sv_d k_Mo_chargeOf 49 rfl) rfl rfl ?_
    refine sv_getf (pc := 83) 38 (sv_d k_Mo_chargeOf 50 rfl) cf12 (by decide) w1340 kd187 (ss_lt (by decide)) (lr_187_38 E _) ?_
    refine sv_iload_n (pc := 86) 1 (sv_d k_Mo_chargeOf 51 rfl) rfl rfl ?_
    refine ss_iald (pc := 87) (n := 60) (sv_d k_Mo_chargeOf 52 rfl) kd210 (ss_lt (by decide)) rfl ?_
    refine sv_icmp_eq (pc := 88) (tgt := 93) (sv_d k_Mo_chargeOf 53 rfl) (by decide) ?_ ?_
    · exact sv_loc [0, 1, 3] rfl (V_Mo_chargeOf_b93 E d s x1 x3)
    · refine sv_iconst (pc := 91) (v := (-1 : Int32)) (sv_d k_Mo_chargeOf 54 rfl) (by decide) ?_
      exact sv_ret (pc := 92) (sv_d k_Mo_chargeOf 55 rfl) ⟨_, rfl, rfl⟩ rfl
  · refine sv_aload_n (pc := 43) 0 (sv_d k_Mo_chargeOf 25 rfl) rfl rfl ?_
    refine sv_getf (pc := 44) 38 (sv_d k_Mo_chargeOf 26 rfl) cf12 (by decide) w1340 kd187 (ss_lt (by decide)) (lr_187_38 E _) ?_
    refine sv_iload_n (pc := 47) 1 (sv_d k_Mo_chargeOf 27 rfl) rfl rfl ?_
    refine ss_iald (pc := 48) (n := 60) (sv_d k_Mo_chargeOf 28 rfl) kd210 (ss_lt (by decide)) rfl ?_
    refine sv_iload_n (pc := 49) 2 (sv_d k_Mo_chargeOf 29 rfl) rfl rfl ?_
    refine sv_icmp_ne (pc := 50) (tgt := 91) (sv_d k_Mo_chargeOf 30 rfl) (by decide) ?_ ?_
    · refine sv_iconst (pc := 91) (v := (-1 : Int32)) (sv_d k_Mo_chargeOf 54 rfl) (by decide) ?_
      exact sv_ret (pc := 92) (sv_d k_Mo_chargeOf 55 rfl) ⟨_, rfl, rfl⟩ rfl
    · refine sv_iload_n (pc := 53) 3 (sv_d k_Mo_chargeOf 31 rfl) rfl rfl ?_
      refine sv_aload_n (pc := 54) 0 (sv_d k_Mo_chargeOf 32 rfl) rfl rfl ?_
      refine sv_getf (pc := 55) 41 (sv_d k_Mo_chargeOf 33 rfl) cf12 (by decide) w1343 kd187 (ss_lt (by decide)) (lr_187_41 E _) ?_
      refine sv_iload_n (pc := 58) 1 (sv_d k_Mo_chargeOf 34 rfl) rfl rfl ?_
      refine ss_iald (pc := 59) (n := 60) (sv_d k_Mo_chargeOf 35 rfl) kd213 (ss_lt (by decide)) rfl ?_
      refine sv_icmp_ge (pc := 60) (tgt := 93) (sv_d k_Mo_chargeOf 36 rfl) (by decide) ?_ ?_
      · exact sv_loc [0, 1, 3] rfl (V_Mo_chargeOf_b93 E d s x1 x3)
      · refine sv_goto (pc := 63) (tgt := 91) (sv_d k_Mo_chargeOf 37 rfl) (by decide) ?_
        refine sv_iconst (pc := 91) (v := (-1 : Int32)) (sv_d k_Mo_chargeOf 54 rfl) (by decide) ?_
        exact sv_ret (pc := 92) (sv_d k_Mo_chargeOf 55 rfl) ⟨_, rfl, rfl⟩ rfl
def F_Mo_chargeOf (x1 : Int32) (x2 : Int32) (x3 : Int32) (x4 : Int32) (s : sv_S) : Option (Int32) :=
  if sv_ib x1 60 = true then
    if x4 < (s.1 211 x1.toNatClampNeg) then
      some (-1 : Int32)
    else
    if sv_ib x1 60 = true then
      if (s.1 212 x1.toNatClampNeg) < 0 then
        F_Mo_chargeOf_b33 s x1 x2 x3
      else
      if sv_ib x1 60 = true then
        if x4 < (s.1 212 x1.toNatClampNeg) then
          F_Mo_chargeOf_b33 s x1 x2 x3
        else
        some (-1 : Int32)
      else none
    else none
  else none
theorem V_Mo_chargeOf (E : sv_E) (d : Nat) (x1 : Int32) (x2 : Int32) (x3 : Int32) (x4 : Int32) (s : sv_S) : sv_V E m_Mo_chargeOf (d + 0) (ss_pi s) 0 (lv_args 0 [sv_r E 187, .int x1, .int x2, .int x3, .int x4]) [] (ss_e s) (F_Mo_chargeOf x1 x2 x3 x4 s) := by
  show sv_V E m_Mo_chargeOf (d + 0) (ss_pi s) 0 [(0, sv_r E 187), (1, .int x1), (2, .int x2), (3, .int x3), (4, .int x4)] [] (ss_e s) _
  unfold F_Mo_chargeOf
  refine sv_iload (pc := 0) 4 (sv_d k_Mo_chargeOf 0 rfl) rfl ?_
  refine sv_aload_n (pc := 2) 0 (sv_d k_Mo_chargeOf 1 rfl) rfl rfl ?_
  refine sv_getf (pc := 3) 39 (sv_d k_Mo_chargeOf 2 rfl) cf12 (by decide) w1341 kd187 (ss_lt (by decide)) (lr_187_39 E _) ?_
  refine sv_iload_n (pc := 6) 1 (sv_d k_Mo_chargeOf 3 rfl) rfl rfl ?_
  refine ss_iald (pc := 7) (n := 60) (sv_d k_Mo_chargeOf 4 rfl) kd211 (ss_lt (by decide)) rfl ?_
  refine sv_icmp_lt (pc := 8) (tgt := 31) (sv_d k_Mo_chargeOf 5 rfl) (by decide) ?_ ?_
  · refine sv_iconst (pc := 31) (v := (-1 : Int32)) (sv_d k_Mo_chargeOf 17 rfl) (by decide) ?_
    exact sv_ret (pc := 32) (sv_d k_Mo_chargeOf 18 rfl) ⟨_, rfl, rfl⟩ rfl
  · refine sv_aload_n (pc := 11) 0 (sv_d k_Mo_chargeOf 6 rfl) rfl rfl ?_
    refine sv_getf (pc := 12) 40 (sv_d k_Mo_chargeOf 7 rfl) cf12 (by decide) w1342 kd187 (ss_lt (by decide)) (lr_187_40 E _) ?_
    refine sv_iload_n (pc := 15) 1 (sv_d k_Mo_chargeOf 8 rfl) rfl rfl ?_
    refine ss_iald (pc := 16) (n := 60) (sv_d k_Mo_chargeOf 9 rfl) kd212 (ss_lt (by decide)) rfl ?_
    refine sv_if_lt (pc := 17) (tgt := 33) (sv_d k_Mo_chargeOf 10 rfl) (by decide) ?_ ?_
    · exact sv_loc [0, 1, 2, 3] rfl (V_Mo_chargeOf_b33 E d s x1 x2 x3)
    · refine sv_iload (pc := 20) 4 (sv_d k_Mo_chargeOf 11 rfl) rfl ?_
      refine sv_aload_n (pc := 22) 0 (sv_d k_Mo_chargeOf 12 rfl) rfl rfl ?_
      refine sv_getf (pc := 23) 40 (sv_d k_Mo_chargeOf 13 rfl) cf12 (by decide) w1342 kd187 (ss_lt (by decide)) (lr_187_40 E _) ?_
      refine sv_iload_n (pc := 26) 1 (sv_d k_Mo_chargeOf 14 rfl) rfl rfl ?_
      refine ss_iald (pc := 27) (n := 60) (sv_d k_Mo_chargeOf 15 rfl) kd212 (ss_lt (by decide)) rfl ?_
      refine sv_icmp_lt (pc := 28) (tgt := 33) (sv_d k_Mo_chargeOf 16 rfl) (by decide) ?_ ?_
      · exact sv_loc [0, 1, 2, 3] rfl (V_Mo_chargeOf_b33 E d s x1 x2 x3)
      · refine sv_iconst (pc := 31) (v := (-1 : Int32)) (sv_d k_Mo_chargeOf 17 rfl) (by decide) ?_
        exact sv_ret (pc := 32) (sv_d k_Mo_chargeOf 18 rfl) ⟨_, rfl, rfl⟩ rfl
/-! Mo_charge -/
abbrev m_Mo_charge : sv_M := (yX12_charge, cX12_charge, 6, (some .int))
def t_Mo_charge : List (Nat × Instr × Nat) := [(0, .aload_n 0, 1), (1, .iload_n 1, 1), (2, .invokevirtual 372, 3), (5, .ifCond .eq 11, 3), (8, .aload_n 0, 1), (9, .iload_n 2, 1), (10, .invokevirtual 369, 3), (13, .ifCond .ne 5, 3), (16, .iconst (-1), 1), (17, .ireturn, 1), (18, .aload_n 0, 1), (19, .iload_n 3, 1), (20, .invokevirtual 379, 3), (23, .ifCond .eq 12, 3), (26, .aload_n 0, 1), (27, .iload 4, 2), (29, .invokevirtual 346, 3), (32, .ifCond .ne 6, 3), (35, .bipush (-2), 2), (37, .ireturn, 1), (38, .aload_n 0, 1), (39, .iload 4, 2), (41, .invokevirtual 382, 3), (44, .aload_n 0, 1), (45, .iload_n 1, 1), (46, .iload_n 2, 1), (47, .iload_n 3, 1), (48, .iload 4, 2), (50, .invokevirtual 385, 3), (53, .istore 5, 2), (55, .iload 5, 2), (57, .ifCond .ge 8, 3), (60, .bipush (-3), 2), (62, .goto 5, 3), (65, .iload 5, 2), (67, .ireturn, 1)]
theorem k_Mo_charge : sv_tk m_Mo_charge.2.1 t_Mo_charge := by decide +kernel
theorem g_Mo_charge : sv_G m_Mo_charge 4 := ⟨by decide +kernel, sv_in 1729 (by decide +kernel) rfl, sv_in 103 (by decide +kernel) rfl, ⟨by decide, by decide⟩, by decide +kernel, by decide⟩
theorem in_Mo_charge : Cond.instanceMethod m_Mo_charge.1 ∈ sv_T := sv_in 1727 (by decide +kernel) rfl
theorem se_Mo_charge : Cond.selects m_Mo_charge.1.cls m_Mo_charge.1 m_Mo_charge.1 ∈ sv_T := sv_in 1728 (by decide +kernel) rfl
def F_Mo_charge (x1 : Int32) (x2 : Int32) (x3 : Int32) (x4 : Int32) (s : sv_S) : Option (Int32 × sv_S) :=
  (F_Mo_isRate x1 s).bind fun r1 =>
  if r1 = 0 then
    some ((-1 : Int32), s)
  else
  (F_Mo_isGood x2 s).bind fun r2 =>
  if r2 = 0 then
    some ((-1 : Int32), s)
  else
  (F_Mo_isTons x3 s).bind fun r3 =>
  if r3 = 0 then
    some ((-2 : Int32), s)
  else
  (F_Mo_isDay x4 s).bind fun r4 =>
  if r4 = 0 then
    some ((-2 : Int32), s)
  else
  (F_Mo_prepare x4 s).bind fun r5 =>
  (F_Mo_chargeOf x1 x2 x3 x4 r5).bind fun r6 =>
  if 0 ≤ r6 then
    some (r6, r5)
  else
  some ((-3 : Int32), r5)
theorem V_Mo_charge (E : sv_E) (d : Nat) (x1 : Int32) (x2 : Int32) (x3 : Int32) (x4 : Int32) (s : sv_S) : sv_V E m_Mo_charge (d + 9) ss_i 0 (lv_args 0 [sv_r E 187, .int x1, .int x2, .int x3, .int x4]) [] (ss_e s) (F_Mo_charge x1 x2 x3 x4 s) := by
  show sv_V E m_Mo_charge (d + 9) ss_i 0 [(0, sv_r E 187), (1, .int x1), (2, .int x2), (3, .int x3), (4, .int x4)] [] (ss_e s) _
  unfold F_Mo_charge
  refine sv_aload_n (pc := 0) 0 (sv_d k_Mo_charge 0 rfl) rfl rfl ?_
  refine sv_iload_n (pc := 1) 1 (sv_d k_Mo_charge 1 rfl) rfl rfl ?_
  refine sv_callV (pc := 2) (ψ := (ss_pi s)) (As := [.int x1]) (rest := []) (c := 187) (sv_d k_Mo_charge 2 rfl) g_Mo_isRate w1706 in_Mo_isRate se_Mo_isRate cf12 kd187 (ss_lt (by decide)) rfl (Nat.le_of_ble_eq_true rfl) (V_Mo_isRate E (d + 7) x1 s) (Nat.le_of_ble_eq_true rfl) rfl (fun r1 => ?_)
  show sv_V E _ _ _ 5 _ [.int r1] (ss_e s) _
  refine sv_if_eq (pc := 5) (tgt := 16) (sv_d k_Mo_charge 3 rfl) (by decide) ?_ ?_
  · refine sv_iconst (pc := 16) (v := (-1 : Int32)) (sv_d k_Mo_charge 8 rfl) (by decide) ?_
    exact sv_ret (pc := 17) (sv_d k_Mo_charge 9 rfl) ⟨_, rfl, rfl⟩ rfl
  · refine sv_aload_n (pc := 8) 0 (sv_d k_Mo_charge 4 rfl) rfl rfl ?_
    refine sv_iload_n (pc := 9) 2 (sv_d k_Mo_charge 5 rfl) rfl rfl ?_
    refine sv_callV (pc := 10) (ψ := (ss_pi s)) (As := [.int x2]) (rest := []) (c := 187) (sv_d k_Mo_charge 6 rfl) g_Mo_isGood w1698 in_Mo_isGood se_Mo_isGood cf12 kd187 (ss_lt (by decide)) rfl (Nat.le_of_ble_eq_true rfl) (V_Mo_isGood E (d + 7) x2 s) (Nat.le_of_ble_eq_true rfl) rfl (fun r2 => ?_)
    show sv_V E _ _ _ 13 _ [.int r2] (ss_e s) _
    refine sv_if_ne (pc := 13) (tgt := 18) (sv_d k_Mo_charge 7 rfl) (by decide) ?_ ?_
    · refine sv_aload_n (pc := 18) 0 (sv_d k_Mo_charge 10 rfl) rfl rfl ?_
      refine sv_iload_n (pc := 19) 3 (sv_d k_Mo_charge 11 rfl) rfl rfl ?_
      refine sv_callV (pc := 20) (ψ := (ss_pi s)) (As := [.int x3]) (rest := []) (c := 187) (sv_d k_Mo_charge 12 rfl) g_Mo_isTons w1730 in_Mo_isTons se_Mo_isTons cf12 kd187 (ss_lt (by decide)) rfl (Nat.le_of_ble_eq_true rfl) (V_Mo_isTons E (d + 7) x3 s) (Nat.le_of_ble_eq_true rfl) rfl (fun r3 => ?_)
      show sv_V E _ _ _ 23 _ [.int r3] (ss_e s) _
      refine sv_if_eq (pc := 23) (tgt := 35) (sv_d k_Mo_charge 13 rfl) (by decide) ?_ ?_
      · refine sv_bipush (pc := 35) (v := (-2 : Int32)) (sv_d k_Mo_charge 18 rfl) (by decide) ?_
        exact sv_ret (pc := 37) (sv_d k_Mo_charge 19 rfl) ⟨_, rfl, rfl⟩ rfl
      · refine sv_aload_n (pc := 26) 0 (sv_d k_Mo_charge 14 rfl) rfl rfl ?_
        refine sv_iload (pc := 27) 4 (sv_d k_Mo_charge 15 rfl) rfl ?_
        refine sv_callV (pc := 29) (ψ := (ss_pi s)) (As := [.int x4]) (rest := []) (c := 187) (sv_d k_Mo_charge 16 rfl) g_Mo_isDay w1594 in_Mo_isDay se_Mo_isDay cf12 kd187 (ss_lt (by decide)) rfl (Nat.le_of_ble_eq_true rfl) (V_Mo_isDay E (d + 7) x4 s) (Nat.le_of_ble_eq_true rfl) rfl (fun r4 => ?_)
        show sv_V E _ _ _ 32 _ [.int r4] (ss_e s) _
        refine sv_if_ne (pc := 32) (tgt := 38) (sv_d k_Mo_charge 17 rfl) (by decide) ?_ ?_
        · refine sv_aload_n (pc := 38) 0 (sv_d k_Mo_charge 20 rfl) rfl rfl ?_
          refine sv_iload (pc := 39) 4 (sv_d k_Mo_charge 21 rfl) rfl ?_
          refine sv_callV (pc := 41) (ψ := ss_v) (As := [.int x4]) (rest := []) (c := 187) (sv_d k_Mo_charge 22 rfl) g_Mo_prepare w1734 in_Mo_prepare se_Mo_prepare cf12 kd187 (ss_lt (by decide)) rfl (Nat.le_of_ble_eq_true rfl) (V_Mo_prepare E (d + 0) x4 s) (Nat.le_of_ble_eq_true rfl) rfl (fun r5 => ?_)
          show sv_V E _ _ _ 44 _ [] (ss_e r5) _
          refine sv_aload_n (pc := 44) 0 (sv_d k_Mo_charge 23 rfl) rfl rfl ?_
          refine sv_iload_n (pc := 45) 1 (sv_d k_Mo_charge 24 rfl) rfl rfl ?_
          refine sv_iload_n (pc := 46) 2 (sv_d k_Mo_charge 25 rfl) rfl rfl ?_
          refine sv_iload_n (pc := 47) 3 (sv_d k_Mo_charge 26 rfl) rfl rfl ?_
          refine sv_iload (pc := 48) 4 (sv_d k_Mo_charge 27 rfl) rfl ?_
          refine sv_callV (pc := 50) (ψ := (ss_pi r5)) (As := [.int x1, .int x2, .int x3, .int x4]) (rest := []) (c := 187) (sv_d k_Mo_charge 28 rfl) g_Mo_chargeOf w1738 in_Mo_chargeOf se_Mo_chargeOf cf12 kd187 (ss_lt (by decide)) rfl (Nat.le_of_ble_eq_true rfl) (V_Mo_chargeOf E (d + 8) x1 x2 x3 x4 r5) (Nat.le_of_ble_eq_true rfl) rfl (fun r6 => ?_)
          show sv_V E _ _ _ 53 _ [.int r6] (ss_e r5) _
          refine sv_istore (pc := 53) (lv' := [(5, .int r6), (0, sv_r E 187), (1, .int x1), (2, .int x2), (3, .int x3), (4, .int x4)]) (sv_d k_Mo_charge 29 rfl) (by decide) rfl ?_
          refine sv_iload (pc := 55) 0 (sv_d k_Mo_charge 30 rfl) rfl ?_
          refine sv_if_ge (pc := 57) (tgt := 65) (sv_d k_Mo_charge 31 rfl) (by decide) ?_ ?_
          · refine sv_iload (pc := 65) 0 (sv_d k_Mo_charge 34 rfl) rfl ?_
            exact sv_ret (pc := 67) (sv_d k_Mo_charge 35 rfl) ⟨_, rfl, rfl⟩ rfl
          · refine sv_bipush (pc := 60) (v := (-3 : Int32)) (sv_d k_Mo_charge 32 rfl) (by decide) ?_
            refine sv_goto (pc := 62) (tgt := 67) (sv_d k_Mo_charge 33 rfl) (by decide) ?_
            exact sv_ret (pc := 67) (sv_d k_Mo_charge 35 rfl) ⟨_, rfl, rfl⟩ rfl
        · refine sv_bipush (pc := 35) (v := (-2 : Int32)) (sv_d k_Mo_charge 18 rfl) (by decide) ?_
          exact sv_ret (pc := 37) (sv_d k_Mo_charge 19 rfl) ⟨_, rfl, rfl⟩ rfl
    · refine sv_iconst (pc := 16) (v := (-1 : Int32)) (sv_d k_Mo_charge 8 rfl) (by decide) ?_
      exact sv_ret (pc := 17) (sv_d k_Mo_charge 9 rfl) ⟨_, rfl, rfl⟩ rfl
/-! Mo_mostOf -/
abbrev m_Mo_mostOf : sv_M := (yX12_mostOf, cX12_mostOf, 4, (some .int))
def t_Mo_mostOf : List (Nat × Instr × Nat) := [(0, .aload_n 0, 1), (1, .iconst (-1), 1), (2, .aload_n 0, 1), (3, .getfield 118, 3), (6, .iload_n 1, 1), (7, .iaload, 1), (8, .aload_n 0, 1), (9, .getfield 121, 3), (12, .iload_n 1, 1), (13, .iaload, 1), (14, .invokevirtual 267, 3), (17, .istore_n 3, 1), (18, .iload_n 3, 1), (19, .ifCond .ge 6, 3), (22, .bipush (-3), 2), (24, .ireturn, 1), (25, .aload_n 0, 1), (26, .aload_n 0, 1), (27, .getfield 115, 3), (30, .iload_n 1, 1), (31, .iaload, 1), (32, .iload_n 2, 1), (33, .invokevirtual 358, 3), (36, .iload_n 3, 1), (37, .aload_n 0, 1), (38, .getfield 62, 3), (41, .aload_n 0, 1), (42, .getfield 112, 3), (45, .iload_n 1, 1), (46, .iaload, 1), (47, .iconst 2, 1), (48, .if_icmp .ne 17, 3), (51, .aload_n 0, 1), (52, .getfield 59, 3), (55, .aload_n 0, 1), (56, .getfield 127, 3), (59, .iload_n 1, 1), (60, .iaload, 1), (61, .iaload, 1), (62, .goto 9, 3), (65, .aload_n 0, 1), (66, .getfield 127, 3), (69, .iload_n 1, 1), (70, .iaload, 1), (71, .iaload, 1), (72, .imul, 1), (73, .bipush 10, 2), (75, .idiv, 1), (76, .ireturn, 1)]
theorem k_Mo_mostOf : sv_tk m_Mo_mostOf.2.1 t_Mo_mostOf := by decide +kernel
theorem g_Mo_mostOf : sv_G m_Mo_mostOf 2 := ⟨by decide +kernel, sv_in 1749 (by decide +kernel) rfl, sv_in 103 (by decide +kernel) rfl, ⟨by decide, by decide⟩, by decide +kernel, by decide⟩
theorem in_Mo_mostOf : Cond.instanceMethod m_Mo_mostOf.1 ∈ sv_T := sv_in 1748 (by decide +kernel) rfl
theorem se_Mo_mostOf : Cond.selects m_Mo_mostOf.1.cls m_Mo_mostOf.1 m_Mo_mostOf.1 ∈ sv_T := sv_in 67 (by decide +kernel) rfl
def F_Mo_mostOf (x1 : Int32) (x2 : Int32) (s : sv_S) : Option (Int32 × sv_S) :=
  if sv_ib x1 60 = true then
    if sv_ib x1 60 = true then
      (F_Mo_milesBy (-1 : Int32) (s.1 207 x1.toNatClampNeg) (s.1 208 x1.toNatClampNeg) s).bind fun r1 =>
      if 0 ≤ r1.1 then
        if sv_ib x1 60 = true then
          (F_Mo_look (r1.2.1 206 x1.toNatClampNeg) x2 r1.2).bind fun r2 =>
          if sv_ib x1 60 = true then
            if (r2.1 205 x1.toNatClampNeg) = (2 : Int32) then
              if sv_ib x1 60 = true then
                if sv_ib (r2.1 210 x1.toNatClampNeg) 20 = true then
                  if sv_ib (r2.1 199 (r2.1 210 x1.toNatClampNeg).toNatClampNeg) 10 = true then
                    some ((r1.1 * (r2.1 200 (r2.1 199 (r2.1 210 x1.toNatClampNeg).toNatClampNeg).toNatClampNeg)) / (10 : Int32), r2)
                  else none
                else none
              else none
            else
            if sv_ib x1 60 = true then
              if sv_ib (r2.1 210 x1.toNatClampNeg) 10 = true then
                some ((r1.1 * (r2.1 200 (r2.1 210 x1.toNatClampNeg).toNatClampNeg)) / (10 : Int32), r2)
              else none
            else none
          else none
        else none
      else
      some ((-3 : Int32), r1.2)
    else none
  else none
theorem V_Mo_mostOf (E : sv_E) (d : Nat) (x1 : Int32) (x2 : Int32) (s : sv_S) : sv_V E m_Mo_mostOf (d + 8) ss_i 0 (lv_args 0 [sv_r E 187, .int x1, .int x2]) [] (ss_e s) (F_Mo_mostOf x1 x2 s) := by
  show sv_V E m_Mo_mostOf (d + 8) ss_i 0 [(0, sv_r E 187), (1, .int x1), (2, .int x2)] [] (ss_e s) _
  unfold F_Mo_mostOf
  refine sv_aload_n (pc := 0) 0 (sv_d k_Mo_mostOf 0 rfl) rfl rfl ?_
  refine sv_iconst (pc := 1) (v := (-1 : Int32)) (sv_d k_Mo_mostOf 1 rfl) (by decide) ?_
  refine sv_aload_n (pc := 2) 0 (sv_d k_Mo_mostOf 2 rfl) rfl rfl ?_
  refine sv_getf (pc := 3) 35 (sv_d k_Mo_mostOf 3 rfl) cf12 (by decide) w1337 kd187 (ss_lt (by decide)) (lr_187_35 E _) ?_
  refine sv_iload_n (pc := 6) 1 (sv_d k_Mo_mostOf 4 rfl) rfl rfl ?_
  refine ss_iald (pc := 7) (n := 60) (sv_d k_Mo_mostOf 5 rfl) kd207 (ss_lt (by decide)) rfl ?_
  refine sv_aload_n (pc := 8) 0 (sv_d k_Mo_mostOf 6 rfl) rfl rfl ?_
  refine sv_getf (pc := 9) 36 (sv_d k_Mo_mostOf 7 rfl) cf12 (by decide) w1338 kd187 (ss_lt (by decide)) (lr_187_36 E _) ?_
  refine sv_iload_n (pc := 12) 1 (sv_d k_Mo_mostOf 8 rfl) rfl rfl ?_
  refine ss_iald (pc := 13) (n := 60) (sv_d k_Mo_mostOf 9 rfl) kd208 (ss_lt (by decide)) rfl ?_
  refine sv_callV (pc := 14) (ψ := ss_i) (As := [.int (-1 : Int32), .int (s.1 207 x1.toNatClampNeg), .int (s.1 208 x1.toNatClampNeg)]) (rest := []) (c := 187) (sv_d k_Mo_mostOf 10 rfl) g_Mo_milesBy w1565 in_Mo_milesBy se_Mo_milesBy cf12 kd187 (ss_lt (by decide)) rfl (Nat.le_of_ble_eq_true rfl) (V_Mo_milesBy E (d + 6) (-1 : Int32) (s.1 207 x1.toNatClampNeg) (s.1 208 x1.toNatClampNeg) s) (Nat.le_of_ble_eq_true rfl) rfl (fun r1 => ?_)
  show sv_V E _ _ _ 17 _ [.int r1.1] (ss_e r1.2) _
  refine sv_istore_n (pc := 17) (lv' := [(3, .int r1.1), (0, sv_r E 187), (1, .int x1), (2, .int x2)]) (sv_d k_Mo_mostOf 11 rfl) rfl (by decide) rfl ?_
  refine sv_iload_n (pc := 18) 0 (sv_d k_Mo_mostOf 12 rfl) rfl rfl ?_
  refine sv_if_ge (pc := 19) (tgt := 25) (sv_d k_Mo_mostOf 13 rfl) (by decide) ?_ ?_
  · refine sv_aload_n (pc := 25) 1 (sv_d k_Mo_mostOf 16 rfl) rfl rfl ?_
    refine sv_aload_n (pc := 26) 1 (sv_d k_Mo_mostOf 17 rfl) rfl rfl ?_
    refine sv_getf (pc := 27) 34 (sv_d k_Mo_mostOf 18 rfl) cf12 (by decide) w1336 kd187 (ss_lt (by decide)) (lr_187_34 E _) ?_
    refine sv_iload_n (pc := 30) 2 (sv_d k_Mo_mostOf 19 rfl) rfl rfl ?_
    refine ss_iald (pc := 31) (n := 60) (sv_d k_Mo_mostOf 20 rfl) kd206 (ss_lt (by decide)) rfl ?_
    refine sv_iload_n (pc := 32) 3 (sv_d k_Mo_mostOf 21 rfl) rfl rfl ?_
    refine sv_callV (pc := 33) (ψ := ss_v) (As := [.int (r1.2.1 206 x1.toNatClampNeg), .int x2]) (rest := []) (c := 187) (sv_d k_Mo_mostOf 22 rfl) g_Mo_look w1670 in_Mo_look se_Mo_look cf12 kd187 (ss_lt (by decide)) rfl (Nat.le_of_ble_eq_true rfl) (V_Mo_look E (d + 0) (r1.2.1 206 x1.toNatClampNeg) x2 r1.2) (Nat.le_of_ble_eq_true rfl) rfl (fun r2 => ?_)
    show sv_V E _ _ _ 36 _ [] (ss_e r2) _
    refine sv_iload_n (pc := 36) 0 (sv_d k_Mo_mostOf 23 rfl) rfl rfl ?_
    refine sv_aload_n (pc := 37) 1 (sv_d k_Mo_mostOf 24 rfl) rfl rfl ?_
    refine sv_getf (pc := 38) 17 (sv_d k_Mo_mostOf 25 rfl) cf12 (by decide) w1319 kd187 (ss_lt (by decide)) (lr_187_17 E _) ?_
    refine sv_aload_n (pc := 41) 1 (sv_d k_Mo_mostOf 26 rfl) rfl rfl ?_
    refine sv_getf (pc := 42) 33 (sv_d k_Mo_mostOf 27 rfl) cf12 (by decide) w1335 kd187 (ss_lt (by decide)) (lr_187_33 E _) ?_
    refine sv_iload_n (pc := 45) 2 (sv_d k_Mo_mostOf 28 rfl) rfl rfl ?_
    refine ss_iald (pc := 46) (n := 60) (sv_d k_Mo_mostOf 29 rfl) kd205 (ss_lt (by decide)) rfl ?_
    refine sv_iconst (pc := 47) (v := (2 : Int32)) (sv_d k_Mo_mostOf 30 rfl) (by decide) ?_
    refine sv_icmp_ne (pc := 48) (tgt := 65) (sv_d k_Mo_mostOf 31 rfl) (by decide) ?_ ?_
    · refine sv_aload_n (pc := 65) 1 (sv_d k_Mo_mostOf 40 rfl) rfl rfl ?_
      refine sv_getf (pc := 66) 38 (sv_d k_Mo_mostOf 41 rfl) cf12 (by decide) w1340 kd187 (ss_lt (by decide)) (lr_187_38 E _) ?_
      refine sv_iload_n (pc := 69) 2 (sv_d k_Mo_mostOf 42 rfl) rfl rfl ?_
      refine ss_iald (pc := 70) (n := 60) (sv_d k_Mo_mostOf 43 rfl) kd210 (ss_lt (by decide)) rfl ?_
      refine ss_iald (pc := 71) (n := 10) (sv_d k_Mo_mostOf 44 rfl) kd200 (ss_lt (by decide)) rfl ?_
      refine sv_imul (pc := 72) (sv_d k_Mo_mostOf 45 rfl) ?_
      refine sv_bipush (pc := 73) (v := (10 : Int32)) (sv_d k_Mo_mostOf 46 rfl) (by decide) ?_
      refine sv_idivK (pc := 75) (sv_d k_Mo_mostOf 47 rfl) (by decide) ?_
      exact sv_ret (pc := 76) (sv_d k_Mo_mostOf 48 rfl) ⟨_, rfl, rfl⟩ rfl
    · refine sv_aload_n (pc := 51) 1 (sv_d k_Mo_mostOf 32 rfl) rfl rfl ?_
      refine sv_getf (pc := 52) 16 (sv_d k_Mo_mostOf 33 rfl) cf12 (by decide) w1318 kd187 (ss_lt (by decide)) (lr_187_16 E _) ?_
      refine sv_aload_n (pc := 55) 1 (sv_d k_Mo_mostOf 34 rfl) rfl rfl ?_
      refine sv_getf (pc := 56) 38 (sv_d k_Mo_mostOf 35 rfl) cf12 (by decide) w1340 kd187 (ss_lt (by decide)) (lr_187_38 E _) ?_
      refine sv_iload_n (pc := 59) 2 (sv_d k_Mo_mostOf 36 rfl) rfl rfl ?_
      refine ss_iald (pc := 60) (n := 60) (sv_d k_Mo_mostOf 37 rfl) kd210 (ss_lt (by decide)) rfl ?_
      refine ss_iald (pc := 61) (n := 20) (sv_d k_Mo_mostOf 38 rfl) kd199 (ss_lt (by decide)) rfl ?_
      refine sv_goto (pc := 62) (tgt := 71) (sv_d k_Mo_mostOf 39 rfl) (by decide) ?_
      refine ss_iald (pc := 71) (n := 10) (sv_d k_Mo_mostOf 44 rfl) kd200 (ss_lt (by decide)) rfl ?_
      refine sv_imul (pc := 72) (sv_d k_Mo_mostOf 45 rfl) ?_
      refine sv_bipush (pc := 73) (v := (10 : Int32)) (sv_d k_Mo_mostOf 46 rfl) (by decide) ?_
      refine sv_idivK (pc := 75) (sv_d k_Mo_mostOf 47 rfl) (by decide) ?_
      exact sv_ret (pc := 76) (sv_d k_Mo_mostOf 48 rfl) ⟨_, rfl, rfl⟩ rfl
  · refine sv_bipush (pc := 22) (v := (-3 : Int32)) (sv_d k_Mo_mostOf 14 rfl) (by decide) ?_
    exact sv_ret (pc := 24) (sv_d k_Mo_mostOf 15 rfl) ⟨_, rfl, rfl⟩ rfl
/-! Mo_most -/
abbrev m_Mo_most : sv_M := (yX12_most, cX12_most, 7, (some .int))
def t_Mo_most : List (Nat × Instr × Nat) := [(0, .aload_n 0, 1), (1, .iload_n 1, 1), (2, .invokevirtual 372, 3), (5, .ifCond .eq 13, 3), (8, .aload_n 0, 1), (9, .iload_n 3, 1), (10, .iconst 0, 1), (11, .iconst 1, 1), (12, .invokevirtual 251, 3), (15, .ifCond .ne 5, 3), (18, .iconst (-1), 1), (19, .ireturn, 1), (20, .aload_n 0, 1), (21, .iload_n 2, 1), (22, .invokevirtual 346, 3), (25, .ifCond .ne 6, 3), (28, .bipush (-2), 2), (30, .ireturn, 1), (31, .aload_n 0, 1), (32, .iload_n 1, 1), (33, .iload_n 2, 1), (34, .invokevirtual 389, 3), (37, .istore 4, 2), (39, .iload_n 3, 1), (40, .ifCond .ne 6, 3), (43, .iload 4, 2), (45, .ireturn, 1), (46, .iload 4, 2), (48, .ifCond .lt 12, 3), (51, .aload_n 0, 1), (52, .iload_n 1, 1), (53, .invokevirtual 375, 3), (56, .iconst 5, 1), (57, .if_icmp .lt 5, 3), (60, .iconst 0, 1), (61, .ireturn, 1), (62, .aload_n 0, 1), (63, .getfield 124, 3), (66, .iload_n 1, 1), (67, .iaload, 1), (68, .istore 5, 2), (70, .aload_n 0, 1), (71, .getfield 112, 3), (74, .iload_n 1, 1), (75, .iaload, 1), (76, .iconst 3, 1), (77, .if_icmp .ne 46, 3), (80, .aload_n 0, 1), (81, .aload_n 0, 1), (82, .getfield 115, 3), (85, .iload_n 1, 1), (86, .iaload, 1), (87, .aload_n 0, 1), (88, .getfield 118, 3), (91, .iload_n 1, 1), (92, .iaload, 1), (93, .aload_n 0, 1), (94, .getfield 121, 3), (97, .iload_n 1, 1), (98, .iaload, 1), (99, .invokevirtual 267, 3), (102, .istore 6, 2), (104, .iload 6, 2), (106, .ifCond .ge 7, 3), (109, .iconst 0, 1), (110, .goto 11, 3), (113, .iload 6, 2), (115, .iload 5, 2), (117, .imul, 1), (118, .bipush 10, 2), (120, .idiv, 1), (121, .istore 5, 2), (123, .iload 5, 2), (125, .iload 4, 2), (127, .if_icmp .le 11, 3), (130, .iload 5, 2), (132, .iload 4, 2), (134, .isub, 1), (135, .goto 4, 3), (138, .iconst 0, 1), (139, .ireturn, 1)]
theorem k_Mo_most : sv_tk m_Mo_most.2.1 t_Mo_most := by decide +kernel
theorem g_Mo_most : sv_G m_Mo_most 3 := ⟨by decide +kernel, sv_in 1745 (by decide +kernel) rfl, sv_in 103 (by decide +kernel) rfl, ⟨by decide, by decide⟩, by decide +kernel, by decide⟩
theorem in_Mo_most : Cond.instanceMethod m_Mo_most.1 ∈ sv_T := sv_in 1743 (by decide +kernel) rfl
theorem se_Mo_most : Cond.selects m_Mo_most.1.cls m_Mo_most.1 m_Mo_most.1 ∈ sv_T := sv_in 1744 (by decide +kernel) rfl
def F_Mo_most_b123 (x4 : Int32) (x5 : Int32) (s : sv_S) : Option (Int32 × sv_S) :=
  if x5 ≤ x4 then
    some ((0 : Int32), s)
  else
  some (x5 - x4, s)
theorem V_Mo_most_b123 (E : sv_E) (d : Nat) (x4 : Int32) (x5 : Int32) (s : sv_S) : sv_V E m_Mo_most (d + 9) ss_i 123 [(4, .int x4), (5, .int x5)] [] (ss_e s) (F_Mo_most_b123 x4 x5 s) := by
  unfold F_Mo_most_b123
  refine sv_iload (pc := 123) 1 (sv_d k_Mo_most 72 rfl) rfl ?_
  refine sv_iload (pc := 125) 0 (sv_d k_Mo_most 73 rfl) rfl ?_
  refine sv_icmp_le (pc := 127) (tgt := 138) (sv_d k_Mo_most 74 rfl) (by decide) ?_ ?_
  · refine sv_iconst (pc := 138) (v := (0 : Int32)) (sv_d k_Mo_most 79 rfl) (by decide) ?_
    exact sv_ret (pc := 139) (sv_d k_Mo_most 80 rfl) ⟨_, rfl, rfl⟩ rfl
  · refine sv_iload (pc := 130) 1 (sv_d k_Mo_most 75 rfl) rfl ?_
    refine sv_iload (pc := 132) 0 (sv_d k_Mo_most 76 rfl) rfl ?_
    refine sv_isub (pc := 134) (sv_d k_Mo_most 77 rfl) ?_
    refine sv_goto (pc := 135) (tgt := 139) (sv_d k_Mo_most 78 rfl) (by decide) ?_
    exact sv_ret (pc := 139) (sv_d k_Mo_most 80 rfl) ⟨_, rfl, rfl⟩ rfl
def F_Mo_most_b121 (x4 : Int32) (t0 : Int32) (s : sv_S) : Option (Int32 × sv_S) :=
  F_Mo_most_b123 x4 t0 s
theorem V_Mo_most_b121 (E : sv_E) (d : Nat) (x4 : Int32) (t0 : Int32) (s : sv_S) : sv_V E m_Mo_most (d + 9) ss_i 121 [(4, .int x4)] [.int t0] (ss_e s) (F_Mo_most_b121 x4 t0 s) := by
  unfold F_Mo_most_b121
  refine sv_istore (pc := 121) (lv' := [(5, .int t0), (4, .int x4)]) (sv_d k_Mo_most 71 rfl) (by decide) rfl ?_
  exact sv_loc [1, 0] rfl (V_Mo_most_b123 E d x4 t0 s)
def F_Mo_most (x1 : Int32) (x2 : Int32) (x3 : Int32) (s : sv_S) : Option (Int32 × sv_S) :=
  (F_Mo_isRate x1 s).bind fun r1 =>
  if r1 = 0 then
    some ((-1 : Int32), s)
  else
  (F_Mo_in x3 (0 : Int32) (1 : Int32) s).bind fun r2 =>
  if r2 = 0 then
    some ((-1 : Int32), s)
  else
  (F_Mo_isDay x2 s).bind fun r3 =>
  if r3 = 0 then
    some ((-2 : Int32), s)
  else
  (F_Mo_mostOf x1 x2 s).bind fun r4 =>
  if x3 = 0 then
    some (r4.1, r4.2)
  else
  if r4.1 < 0 then
    some ((0 : Int32), r4.2)
  else
  (F_Mo_nowKind x1 r4.2).bind fun r5 =>
  if r5 < (5 : Int32) then
    if sv_ib x1 60 = true then
      ss_let (r4.2.1 209 x1.toNatClampNeg) fun v6 =>
      if sv_ib x1 60 = true then
        if (r4.2.1 205 x1.toNatClampNeg) = (3 : Int32) then
          if sv_ib x1 60 = true then
            if sv_ib x1 60 = true then
              if sv_ib x1 60 = true then
                (F_Mo_milesBy (r4.2.1 206 x1.toNatClampNeg) (r4.2.1 207 x1.toNatClampNeg) (r4.2.1 208 x1.toNatClampNeg) r4.2).bind fun r7 =>
                if 0 ≤ r7.1 then
                  F_Mo_most_b121 r4.1 ((r7.1 * v6) / (10 : Int32)) r7.2
                else
                F_Mo_most_b121 r4.1 (0 : Int32) r7.2
              else none
            else none
          else none
        else
        F_Mo_most_b123 r4.1 v6 r4.2
      else none
    else none
  else
  some ((0 : Int32), r4.2)
theorem V_Mo_most (E : sv_E) (d : Nat) (x1 : Int32) (x2 : Int32) (x3 : Int32) (s : sv_S) : sv_V E m_Mo_most (d + 9) ss_i 0 (lv_args 0 [sv_r E 187, .int x1, .int x2, .int x3]) [] (ss_e s) (F_Mo_most x1 x2 x3 s) := by
  show sv_V E m_Mo_most (d + 9) ss_i 0 [(0, sv_r E 187), (1, .int x1), (2, .int x2), (3, .int x3)] [] (ss_e s) _
  unfold F_Mo_most
  refine sv_aload_n (pc := 0) 0 (sv_d k_Mo_most 0 rfl) rfl rfl ?_
  refine sv_iload_n (pc := 1) 1 (sv_d k_Mo_most 1 rfl) rfl rfl ?_
  refine sv_callV (pc := 2) (ψ := (ss_pi s)) (As := [.int x1]) (rest := []) (c := 187) (sv_d k_Mo_most 2 rfl) g_Mo_isRate w1706 in_Mo_isRate se_Mo_isRate cf12 kd187 (ss_lt (by decide)) rfl (Nat.le_of_ble_eq_true rfl) (V_Mo_isRate E (d + 7) x1 s) (Nat.le_of_ble_eq_true rfl) rfl (fun r1 => ?_)
  show sv_V E _ _ _ 5 _ [.int r1] (ss_e s) _
  refine sv_if_eq (pc := 5) (tgt := 18) (sv_d k_Mo_most 3 rfl) (by decide) ?_ ?_
  · refine sv_iconst (pc := 18) (v := (-1 : Int32)) (sv_d k_Mo_most 10 rfl) (by decide) ?_
    exact sv_ret (pc := 19) (sv_d k_Mo_most 11 rfl) ⟨_, rfl, rfl⟩ rfl
  · refine sv_aload_n (pc := 8) 0 (sv_d k_Mo_most 4 rfl) rfl rfl ?_
    refine sv_iload_n (pc := 9) 3 (sv_d k_Mo_most 5 rfl) rfl rfl ?_
    refine sv_iconst (pc := 10) (v := (0 : Int32)) (sv_d k_Mo_most 6 rfl) (by decide) ?_
    refine sv_iconst (pc := 11) (v := (1 : Int32)) (sv_d k_Mo_most 7 rfl) (by decide) ?_
    refine sv_callV (pc := 12) (ψ := (ss_pi s)) (As := [.int x3, .int (0 : Int32), .int (1 : Int32)]) (rest := []) (c := 187) (sv_d k_Mo_most 8 rfl) g_Mo_in w1545 in_Mo_in se_Mo_in cf12 kd187 (ss_lt (by decide)) rfl (Nat.le_of_ble_eq_true rfl) (V_Mo_in E (d + 8) x3 (0 : Int32) (1 : Int32) s) (Nat.le_of_ble_eq_true rfl) rfl (fun r2 => ?_)
    show sv_V E _ _ _ 15 _ [.int r2] (ss_e s) _
    refine sv_if_ne (pc := 15) (tgt := 20) (sv_d k_Mo_most 9 rfl) (by decide) ?_ ?_
    · refine sv_aload_n (pc := 20) 0 (sv_d k_Mo_most 12 rfl) rfl rfl ?_
      refine sv_iload_n (pc := 21) 2 (sv_d k_Mo_most 13 rfl) rfl rfl ?_
      refine sv_callV (pc := 22) (ψ := (ss_pi s)) (As := [.int x2]) (rest := []) (c := 187) (sv_d k_Mo_most 14 rfl) g_Mo_isDay w1594 in_Mo_isDay se_Mo_isDay cf12 kd187 (ss_lt (by decide)) rfl (Nat.le_of_ble_eq_true rfl) (V_Mo_isDay E (d + 7) x2 s) (Nat.le_of_ble_eq_true rfl) rfl (fun r3 => ?_)
      show sv_V E _ _ _ 25 _ [.int r3] (ss_e s) _
      refine sv_if_ne (pc := 25) (tgt := 31) (sv_d k_Mo_most 15 rfl) (by decide) ?_ ?_
      · refine sv_aload_n (pc := 31) 0 (sv_d k_Mo_most 18 rfl) rfl rfl ?_
        refine sv_iload_n (pc := 32) 1 (sv_d k_Mo_most 19 rfl) rfl rfl ?_
        refine sv_iload_n (pc := 33) 2 (sv_d k_Mo_most 20 rfl) rfl rfl ?_
        refine sv_callV (pc := 34) (ψ := ss_i) (As := [.int x1, .int x2]) (rest := []) (c := 187) (sv_d k_Mo_most 21 rfl) g_Mo_mostOf w1746 in_Mo_mostOf se_Mo_mostOf cf12 kd187 (ss_lt (by decide)) rfl (Nat.le_of_ble_eq_true rfl) (V_Mo_mostOf E (d + 0) x1 x2 s) (Nat.le_of_ble_eq_true rfl) rfl (fun r4 => ?_)
        show sv_V E _ _ _ 37 _ [.int r4.1] (ss_e r4.2) _
        refine sv_istore (pc := 37) (lv' := [(4, .int r4.1), (0, sv_r E 187), (1, .int x1), (2, .int x2), (3, .int x3)]) (sv_d k_Mo_most 22 rfl) (by decide) rfl ?_
        refine sv_iload_n (pc := 39) 4 (sv_d k_Mo_most 23 rfl) rfl rfl ?_
        refine sv_if_ne (pc := 40) (tgt := 46) (sv_d k_Mo_most 24 rfl) (by decide) ?_ ?_
        · refine sv_iload (pc := 46) 0 (sv_d k_Mo_most 27 rfl) rfl ?_
          refine sv_if_lt (pc := 48) (tgt := 60) (sv_d k_Mo_most 28 rfl) (by decide) ?_ ?_
          · refine sv_iconst (pc := 60) (v := (0 : Int32)) (sv_d k_Mo_most 34 rfl) (by decide) ?_
            exact sv_ret (pc := 61) (sv_d k_Mo_most 35 rfl) ⟨_, rfl, rfl⟩ rfl
          · refine sv_aload_n (pc := 51) 1 (sv_d k_Mo_most 29 rfl) rfl rfl ?_
            refine sv_iload_n (pc := 52) 2 (sv_d k_Mo_most 30 rfl) rfl rfl ?_
            refine sv_callV (pc := 53) (ψ := (ss_pi r4.2)) (As := [.int x1]) (rest := []) (c := 187) (sv_d k_Mo_most 31 rfl) g_Mo_nowKind w1710 in_Mo_nowKind se_Mo_nowKind cf12 kd187 (ss_lt (by decide)) rfl (Nat.le_of_ble_eq_true rfl) (V_Mo_nowKind E (d + 8) x1 r4.2) (Nat.le_of_ble_eq_true rfl) rfl (fun r5 => ?_)
            show sv_V E _ _ _ 56 _ [.int r5] (ss_e r4.2) _
            refine sv_iconst (pc := 56) (v := (5 : Int32)) (sv_d k_Mo_most 32 rfl) (by decide) ?_
            refine sv_icmp_lt (pc := 57) (tgt := 62) (sv_d k_Mo_most 33 rfl) (by decide) ?_ ?_
            · refine sv_aload_n (pc := 62) 1 (sv_d k_Mo_most 36 rfl) rfl rfl ?_
              refine sv_getf (pc := 63) 37 (sv_d k_Mo_most 37 rfl) cf12 (by decide) w1339 kd187 (ss_lt (by decide)) (lr_187_37 E _) ?_
              refine sv_iload_n (pc := 66) 2 (sv_d k_Mo_most 38 rfl) rfl rfl ?_
              refine ss_iald (pc := 67) (n := 60) (sv_d k_Mo_most 39 rfl) kd209 (ss_lt (by decide)) rfl ?_
              refine ss_top (fun v6 e_v6 => ?_)
              refine sv_istore (pc := 68) (lv' := [(5, .int v6), (4, .int r4.1), (0, sv_r E 187), (1, .int x1), (2, .int x2), (3, .int x3)]) (sv_d k_Mo_most 40 rfl) (by decide) rfl ?_
              refine sv_aload_n (pc := 70) 2 (sv_d k_Mo_most 41 rfl) rfl rfl ?_
              refine sv_getf (pc := 71) 33 (sv_d k_Mo_most 42 rfl) cf12 (by decide) w1335 kd187 (ss_lt (by decide)) (lr_187_33 E _) ?_
              refine sv_iload_n (pc := 74) 3 (sv_d k_Mo_most 43 rfl) rfl rfl ?_
              refine ss_iald (pc := 75) (n := 60) (sv_d k_Mo_most 44 rfl) kd205 (ss_lt (by decide)) rfl ?_
              refine sv_iconst (pc := 76) (v := (3 : Int32)) (sv_d k_Mo_most 45 rfl) (by decide) ?_
              refine sv_icmp_ne (pc := 77) (tgt := 123) (sv_d k_Mo_most 46 rfl) (by decide) ?_ ?_
              · exact sv_loc [1, 0] rfl (V_Mo_most_b123 E d r4.1 v6 r4.2)
              · refine sv_aload_n (pc := 80) 2 (sv_d k_Mo_most 47 rfl) rfl rfl ?_
                refine sv_aload_n (pc := 81) 2 (sv_d k_Mo_most 48 rfl) rfl rfl ?_
                refine sv_getf (pc := 82) 34 (sv_d k_Mo_most 49 rfl) cf12 (by decide) w1336 kd187 (ss_lt (by decide)) (lr_187_34 E _) ?_
                refine sv_iload_n (pc := 85) 3 (sv_d k_Mo_most 50 rfl) rfl rfl ?_
                refine ss_iald (pc := 86) (n := 60) (sv_d k_Mo_most 51 rfl) kd206 (ss_lt (by decide)) rfl ?_
                refine sv_aload_n (pc := 87) 2 (sv_d k_Mo_most 52 rfl) rfl rfl ?_
                refine sv_getf (pc := 88) 35 (sv_d k_Mo_most 53 rfl) cf12 (by decide) w1337 kd187 (ss_lt (by decide)) (lr_187_35 E _) ?_
                refine sv_iload_n (pc := 91) 3 (sv_d k_Mo_most 54 rfl) rfl rfl ?_
                refine ss_iald (pc := 92) (n := 60) (sv_d k_Mo_most 55 rfl) kd207 (ss_lt (by decide)) rfl ?_
                refine sv_aload_n (pc := 93) 2 (sv_d k_Mo_most 56 rfl) rfl rfl ?_
                refine sv_getf (pc := 94) 36 (sv_d k_Mo_most 57 rfl) cf12 (by decide) w1338 kd187 (ss_lt (by decide)) (lr_187_36 E _) ?_
                refine sv_iload_n (pc := 97) 3 (sv_d k_Mo_most 58 rfl) rfl rfl ?_
                refine ss_iald (pc := 98) (n := 60) (sv_d k_Mo_most 59 rfl) kd208 (ss_lt (by decide)) rfl ?_
                refine sv_callV (pc := 99) (ψ := ss_i) (As := [.int (r4.2.1 206 x1.toNatClampNeg), .int (r4.2.1 207 x1.toNatClampNeg), .int (r4.2.1 208 x1.toNatClampNeg)]) (rest := []) (c := 187) (sv_d k_Mo_most 60 rfl) g_Mo_milesBy w1565 in_Mo_milesBy se_Mo_milesBy cf12 kd187 (ss_lt (by decide)) rfl (Nat.le_of_ble_eq_true rfl) (V_Mo_milesBy E (d + 7) (r4.2.1 206 x1.toNatClampNeg) (r4.2.1 207 x1.toNatClampNeg) (r4.2.1 208 x1.toNatClampNeg) r4.2) (Nat.le_of_ble_eq_true rfl) rfl (fun r7 => ?_)
                show sv_V E _ _ _ 102 _ [.int r7.1] (ss_e r7.2) _
                refine sv_istore (pc := 102) (lv' := [(6, .int r7.1), (5, .int v6), (4, .int r4.1), (0, sv_r E 187), (1, .int x1), (2, .int x2), (3, .int x3)]) (sv_d k_Mo_most 61 rfl) (by decide) rfl ?_
                refine sv_iload (pc := 104) 0 (sv_d k_Mo_most 62 rfl) rfl ?_
                refine sv_if_ge (pc := 106) (tgt := 113) (sv_d k_Mo_most 63 rfl) (by decide) ?_ ?_
                · refine sv_iload (pc := 113) 0 (sv_d k_Mo_most 66 rfl) rfl ?_
                  refine sv_iload (pc := 115) 1 (sv_d k_Mo_most 67 rfl) rfl ?_
                  refine sv_imul (pc := 117) (sv_d k_Mo_most 68 rfl) ?_
                  refine sv_bipush (pc := 118) (v := (10 : Int32)) (sv_d k_Mo_most 69 rfl) (by decide) ?_
                  refine sv_idivK (pc := 120) (sv_d k_Mo_most 70 rfl) (by decide) ?_
                  exact sv_loc [2] rfl (V_Mo_most_b121 E d r4.1 ((r7.1 * v6) / (10 : Int32)) r7.2)
                · refine sv_iconst (pc := 109) (v := (0 : Int32)) (sv_d k_Mo_most 64 rfl) (by decide) ?_
                  refine sv_goto (pc := 110) (tgt := 121) (sv_d k_Mo_most 65 rfl) (by decide) ?_
                  exact sv_loc [2] rfl (V_Mo_most_b121 E d r4.1 (0 : Int32) r7.2)
            · refine sv_iconst (pc := 60) (v := (0 : Int32)) (sv_d k_Mo_most 34 rfl) (by decide) ?_
              exact sv_ret (pc := 61) (sv_d k_Mo_most 35 rfl) ⟨_, rfl, rfl⟩ rfl
        · refine sv_iload (pc := 43) 0 (sv_d k_Mo_most 25 rfl) rfl ?_
          exact sv_ret (pc := 45) (sv_d k_Mo_most 26 rfl) ⟨_, rfl, rfl⟩ rfl
      · refine sv_bipush (pc := 28) (v := (-2 : Int32)) (sv_d k_Mo_most 16 rfl) (by decide) ?_
        exact sv_ret (pc := 30) (sv_d k_Mo_most 17 rfl) ⟨_, rfl, rfl⟩ rfl
    · refine sv_iconst (pc := 18) (v := (-1 : Int32)) (sv_d k_Mo_most 10 rfl) (by decide) ?_
      exact sv_ret (pc := 19) (sv_d k_Mo_most 11 rfl) ⟨_, rfl, rfl⟩ rfl
/-! Mo_part -/
abbrev m_Mo_part : sv_M := (yX12_part, cX12_part, 8, (some .int))
def t_Mo_part : List (Nat × Instr × Nat) := [(0, .aload_n 0, 1), (1, .iload_n 1, 1), (2, .invokevirtual 372, 3), (5, .ifCond .eq 11, 3), (8, .aload_n 0, 1), (9, .iload_n 3, 1), (10, .invokevirtual 255, 3), (13, .ifCond .ne 5, 3), (16, .iconst (-1), 1), (17, .ireturn, 1), (18, .aload_n 0, 1), (19, .getfield 112, 3), (22, .iload_n 1, 1), (23, .iaload, 1), (24, .iconst 1, 1), (25, .if_icmp .eq 16, 3), (28, .aload_n 0, 1), (29, .getfield 112, 3), (32, .iload_n 1, 1), (33, .iaload, 1), (34, .iconst 4, 1), (35, .if_icmp .eq 6, 3), (38, .bipush (-12), 2), (40, .ireturn, 1), (41, .aload_n 0, 1), (42, .iload_n 2, 1), (43, .invokevirtual 346, 3), (46, .ifCond .ne 6, 3), (49, .bipush (-2), 2), (51, .ireturn, 1), (52, .aload_n 0, 1), (53, .aload_n 0, 1), (54, .getfield 118, 3), (57, .iload_n 1, 1), (58, .iaload, 1), (59, .aload_n 0, 1), (60, .getfield 121, 3), (63, .iload_n 1, 1), (64, .iaload, 1), (65, .invokevirtual 275, 3), (68, .ifCond .ne 6, 3), (71, .bipush (-3), 2), (73, .ireturn, 1), (74, .aload_n 0, 1), (75, .aload_n 0, 1), (76, .getfield 115, 3), (79, .iload_n 1, 1), (80, .iaload, 1), (81, .iload_n 2, 1), (82, .invokevirtual 358, 3), (85, .iconst 0, 1), (86, .istore 4, 2), (88, .iload 4, 2), (90, .bipush 6, 2), (92, .if_icmp .ge 17, 3), (95, .aload_n 0, 1), (96, .getfield 154, 3), (99, .iload 4, 2), (101, .iconst 0, 1), (102, .iastore, 1), (103, .iinc 4 1, 3), (106, .goto (-18), 3), (109, .iconst 0, 1), (110, .istore 4, 2), (112, .iload 4, 2), (114, .aload_n 0, 1), (115, .getfield 38, 3), (118, .if_icmp .ge 61, 3), (121, .aload_n 0, 1), (122, .getfield 16, 3), (125, .aload_n 0, 1), (126, .getfield 35, 3), (129, .iload 4, 2), (131, .iaload, 1), (132, .iaload, 1), (133, .istore 5, 2), (135, .aload_n 0, 1), (136, .getfield 154, 3), (139, .iload 5, 2), (141, .aload_n 0, 1), (142, .getfield 68, 3), (145, .ifCond .eq 26, 3), (148, .aload_n 0, 1), (149, .getfield 154, 3), (152, .iload 5, 2), (154, .iaload, 1), (155, .aload_n 0, 1), (156, .getfield 26, 3), (159, .aload_n 0, 1), (160, .getfield 35, 3), (163, .iload 4, 2), (165, .iaload, 1), (166, .iaload, 1), (167, .iadd, 1), (168, .goto 4, 3), (171, .iconst 1, 1), (172, .iastore, 1), (173, .iinc 4 1, 3), (176, .goto (-64), 3), (179, .iconst 0, 1), (180, .istore 4, 2), (182, .iconst 0, 1), (183, .istore 5, 2), (185, .iload 5, 2), (187, .bipush 6, 2), (189, .if_icmp .ge 21, 3), (192, .iload 4, 2), (194, .aload_n 0, 1), (195, .getfield 154, 3), (198, .iload 5, 2), (200, .iaload, 1), (201, .iadd, 1), (202, .istore 4, 2), (204, .iinc 5 1, 3), (207, .goto (-22), 3), (210, .aload_n 0, 1), (211, .getfield 124, 3), (214, .iload_n 1, 1), (215, .iaload, 1), (216, .istore 5, 2), (218, .iconst 0, 1), (219, .istore 6, 2), (221, .iload 6, 2), (223, .bipush 6, 2), (225, .if_icmp .ge 83, 3), (228, .aload_n 0, 1), (229, .getfield 157, 3), (232, .iload 6, 2), (234, .aload_n 0, 1), (235, .getfield 124, 3), (238, .iload_n 1, 1), (239, .iaload, 1), (240, .aload_n 0, 1), (241, .getfield 154, 3), (244, .iload 6, 2), (246, .iaload, 1), (247, .imul, 1), (248, .iload 4, 2), (250, .idiv, 1), (251, .iastore, 1), (252, .aload_n 0, 1), (253, .getfield 160, 3), (256, .iload 6, 2), (258, .aload_n 0, 1), (259, .getfield 154, 3), (262, .iload 6, 2), (264, .iaload, 1), (265, .ifCond .ne 7, 3), (268, .iconst (-1), 1), (269, .goto 20, 3), (272, .aload_n 0, 1), (273, .getfield 124, 3), (276, .iload_n 1, 1), (277, .iaload, 1), (278, .aload_n 0, 1), (279, .getfield 154, 3), (282, .iload 6, 2), (284, .iaload, 1), (285, .imul, 1), (286, .iload 4, 2), (288, .irem, 1), (289, .iastore, 1), (290, .iload 5, 2), (292, .aload_n 0, 1), (293, .getfield 157, 3), (296, .iload 6, 2), (298, .iaload, 1), (299, .isub, 1), (300, .istore 5, 2), (302, .iinc 6 1, 3), (305, .goto (-84), 3), (308, .iload 5, 2), (310, .ifCond .le 68, 3), (313, .iconst 0, 1), (314, .istore 6, 2), (316, .iconst 1, 1), (317, .istore 7, 2), (319, .iload 7, 2), (321, .bipush 6, 2), (323, .if_icmp .ge 30, 3), (326, .aload_n 0, 1), (327, .getfield 160, 3), (330, .iload 7, 2), (332, .iaload, 1), (333, .aload_n 0, 1), (334, .getfield 160, 3), (337, .iload 6, 2), (339, .iaload, 1), (340, .if_icmp .le 7, 3), (343, .iload 7, 2), (345, .istore 6, 2), (347, .iinc 7 1, 3), (350, .goto (-31), 3), (353, .aload_n 0, 1), (354, .getfield 157, 3), (357, .iload 6, 2), (359, .dup2, 1), (360, .iaload, 1), (361, .iconst 1, 1), (362, .iadd, 1), (363, .iastore, 1), (364, .aload_n 0, 1), (365, .getfield 160, 3), (368, .iload 6, 2), (370, .iconst (-1), 1), (371, .iastore, 1), (372, .iinc 5 (-1), 3), (375, .goto (-67), 3), (378, .aload_n 0, 1), (379, .getfield 157, 3), (382, .iload_n 3, 1), (383, .iaload, 1), (384, .ireturn, 1)]
theorem k_Mo_part : sv_tk m_Mo_part.2.1 t_Mo_part := by decide +kernel
theorem g_Mo_part : sv_G m_Mo_part 3 := ⟨by decide +kernel, sv_in 1753 (by decide +kernel) rfl, sv_in 103 (by decide +kernel) rfl, ⟨by decide, by decide⟩, by decide +kernel, by decide⟩
theorem in_Mo_part : Cond.instanceMethod m_Mo_part.1 ∈ sv_T := sv_in 1751 (by decide +kernel) rfl
theorem se_Mo_part : Cond.selects m_Mo_part.1.cls m_Mo_part.1 m_Mo_part.1 ∈ sv_T := sv_in 1752 (by decide +kernel) rfl
def F_Mo_part_b347 (kc308 : Int32 → Int32 → sv_S → Option (Int32 × sv_S)) (kc319 : Int32 → Int32 → Int32 → Int32 → sv_S → Option (Int32 × sv_S)) (x3 : Int32) (x5 : Int32) (x6 : Int32) (x7 : Int32) (s : sv_S) : Option (Int32 × sv_S) :=
  ss_let (x7 + (1 : Int32)) fun v10 =>
  kc319 x3 x5 x6 v10 s
theorem V_Mo_part_b347 (E : sv_E) (d : Nat) (kc308 : Int32 → Int32 → sv_S → Option (Int32 × sv_S)) (kc319 : Int32 → Int32 → Int32 → Int32 → sv_S → Option (Int32 × sv_S)) (hc308 : ∀ (x3 : Int32) (x5 : Int32) (s : sv_S), sv_V E m_Mo_part (d + 8) ss_i 308 [(0, sv_r E 187), (3, .int x3), (5, .int x5)] [] (ss_e s) (kc308 x3 x5 s)) (hc319 : ∀ (x3 : Int32) (x5 : Int32) (x6 : Int32) (x7 : Int32) (s : sv_S), sv_V E m_Mo_part (d + 8) ss_i 319 [(0, sv_r E 187), (3, .int x3), (5, .int x5), (6, .int x6), (7, .int x7)] [] (ss_e s) (kc319 x3 x5 x6 x7 s)) (x3 : Int32) (x5 : Int32) (x6 : Int32) (x7 : Int32) (s : sv_S) : sv_V E m_Mo_part (d + 8) ss_i 347 [(0, sv_r E 187), (3, .int x3), (5, .int x5), (6, .int x6), (7, .int x7)] [] (ss_e s) (F_Mo_part_b347 kc308 kc319 x3 x5 x6 x7 s) := by
  unfold F_Mo_part_b347
  refine ss_letr (fun v10 e_v10 => ?_)
  refine sv_iinc (pc := 347) (v := v10) (lv' := [(7, .int v10), (0, sv_r E 187), (3, .int x3), (5, .int x5), (6, .int x6)]) (sv_d k_Mo_part 191 rfl) (n := 4) rfl (by rw [e_v10]; rfl) (by decide) rfl ?_
  refine sv_goto (pc := 350) (tgt := 319) (sv_d k_Mo_part 192 rfl) (by decide) ?_
  exact sv_loc [1, 2, 3, 4, 0] rfl (hc319 x3 x5 x6 v10 s)
def F_Mo_part_b319 (kc308 : Int32 → Int32 → sv_S → Option (Int32 × sv_S)) : Nat → Int32 → Int32 → Int32 → Int32 → sv_S → Option (Int32 × sv_S)
  | 0 => fun _ _ _ _ _ => none
  | n + 1 => fun x3 x5 x6 x7 s =>
    if (6 : Int32) ≤ x7 then
      if sv_ib x6 6 = true then
        if sv_ib x6 6 = true then
          ss_let (ss_setI s 220 x6.toNatClampNeg ((s.1 220 x6.toNatClampNeg) + (1 : Int32))) fun s7 =>
          if sv_ib x6 6 = true then
            ss_let (ss_setI s7 221 x6.toNatClampNeg (-1 : Int32)) fun s8 =>
            ss_let (x5 + (-1 : Int32)) fun v9 =>
            kc308 x3 v9 s8
          else none
        else none
      else none
    else
    if sv_ib x7 6 = true then
      if sv_ib x6 6 = true then
        if (s.1 221 x7.toNatClampNeg) ≤ (s.1 221 x6.toNatClampNeg) then
          F_Mo_part_b347 kc308 (F_Mo_part_b319 kc308 n) x3 x5 x6 x7 s
        else
        F_Mo_part_b347 kc308 (F_Mo_part_b319 kc308 n) x3 x5 x7 x7 s
      else none
    else none
theorem V_Mo_part_b319 (E : sv_E) (d : Nat) (kc308 : Int32 → Int32 → sv_S → Option (Int32 × sv_S)) (hc308 : ∀ (x3 : Int32) (x5 : Int32) (s : sv_S), sv_V E m_Mo_part (d + 8) ss_i 308 [(0, sv_r E 187), (3, .int x3), (5, .int x5)] [] (ss_e s) (kc308 x3 x5 s)) : ∀ (n : Nat) (x3 : Int32) (x5 : Int32) (x6 : Int32) (x7 : Int32) (s : sv_S), sv_V E m_Mo_part (d + 8) ss_i 319 [(0, sv_r E 187), (3, .int x3), (5, .int x5), (6, .int x6), (7, .int x7)] [] (ss_e s) (F_Mo_part_b319 kc308 n x3 x5 x6 x7 s) := by
  intro n
  induction n with
  | zero => intro x3 x5 x6 x7 s; exact sv_none
  | succ n ih =>
    intro x3 x5 x6 x7 s
    unfold F_Mo_part_b319
    refine sv_iload (pc := 319) 4 (sv_d k_Mo_part 177 rfl) rfl ?_
    refine sv_bipush (pc := 321) (v := (6 : Int32)) (sv_d k_Mo_part 178 rfl) (by decide) ?_
    refine sv_icmp_ge (pc := 323) (tgt := 353) (sv_d k_Mo_part 179 rfl) (by decide) ?_ ?_
    · refine sv_aload_n (pc := 353) 0 (sv_d k_Mo_part 193 rfl) rfl rfl ?_
      refine sv_getf (pc := 354) 48 (sv_d k_Mo_part 194 rfl) cf12 (by decide) w1350 kd187 (ss_lt (by decide)) (lr_187_48 E _) ?_
      refine sv_iload (pc := 357) 3 (sv_d k_Mo_part 195 rfl) rfl ?_
      refine sv_dup2 (pc := 359) (sv_d k_Mo_part 196 rfl) rfl rfl ?_
      refine ss_iald (pc := 360) (n := 6) (sv_d k_Mo_part 197 rfl) kd220 (ss_lt (by decide)) rfl ?_
      refine sv_iconst (pc := 361) (v := (1 : Int32)) (sv_d k_Mo_part 198 rfl) (by decide) ?_
      refine sv_iadd (pc := 362) (sv_d k_Mo_part 199 rfl) ?_
      refine ss_iast (pc := 363) (n := 6) (sv_d k_Mo_part 200 rfl) kd220 (by decide) (ss_lt (by decide)) rfl (ss_lets (fun s7 e_s7 => ?_))
      refine sv_aload_n (pc := 364) 0 (sv_d k_Mo_part 201 rfl) rfl rfl ?_
      refine sv_getf (pc := 365) 49 (sv_d k_Mo_part 202 rfl) cf12 (by decide) w1351 kd187 (ss_lt (by decide)) (lr_187_49 E _) ?_
      refine sv_iload (pc := 368) 3 (sv_d k_Mo_part 203 rfl) rfl ?_
      refine sv_iconst (pc := 370) (v := (-1 : Int32)) (sv_d k_Mo_part 204 rfl) (by decide) ?_
      refine ss_iast (pc := 371) (n := 6) (sv_d k_Mo_part 205 rfl) kd221 (by decide) (ss_lt (by decide)) rfl (ss_lets (fun s8 e_s8 => ?_))
      refine ss_letr (fun v9 e_v9 => ?_)
      refine sv_iinc (pc := 372) (v := v9) (lv' := [(5, .int v9), (0, sv_r E 187), (3, .int x3), (6, .int x6), (7, .int x7)]) (sv_d k_Mo_part 206 rfl) (n := 2) rfl (by rw [e_v9]; rfl) (by decide) rfl ?_
      refine sv_goto (pc := 375) (tgt := 308) (sv_d k_Mo_part 207 rfl) (by decide) ?_
      exact sv_loc [1, 2, 0] rfl (hc308 x3 v9 s8)
    · refine sv_aload_n (pc := 326) 0 (sv_d k_Mo_part 180 rfl) rfl rfl ?_
      refine sv_getf (pc := 327) 49 (sv_d k_Mo_part 181 rfl) cf12 (by decide) w1351 kd187 (ss_lt (by decide)) (lr_187_49 E _) ?_
      refine sv_iload (pc := 330) 4 (sv_d k_Mo_part 182 rfl) rfl ?_
      refine ss_iald (pc := 332) (n := 6) (sv_d k_Mo_part 183 rfl) kd221 (ss_lt (by decide)) rfl ?_
      refine sv_aload_n (pc := 333) 0 (sv_d k_Mo_part 184 rfl) rfl rfl ?_
      refine sv_getf (pc := 334) 49 (sv_d k_Mo_part 185 rfl) cf12 (by decide) w1351 kd187 (ss_lt (by decide)) (lr_187_49 E _) ?_
      refine sv_iload (pc := 337) 3 (sv_d k_Mo_part 186 rfl) rfl ?_
      refine ss_iald (pc := 339) (n := 6) (sv_d k_Mo_part 187 rfl) kd221 (ss_lt (by decide)) rfl ?_
      refine sv_icmp_le (pc := 340) (tgt := 347) (sv_d k_Mo_part 188 rfl) (by decide) ?_ ?_
      · exact sv_loc [0, 1, 2, 3, 4] rfl (V_Mo_part_b347 E d kc308 (F_Mo_part_b319 kc308 n) hc308 ih x3 x5 x6 x7 s)
      · refine sv_iload (pc := 343) 4 (sv_d k_Mo_part 189 rfl) rfl ?_
        refine sv_istore (pc := 345) (lv' := [(6, .int x7), (0, sv_r E 187), (3, .int x3), (5, .int x5), (7, .int x7)]) (sv_d k_Mo_part 190 rfl) (by decide) rfl ?_
        exact sv_loc [1, 2, 3, 0, 4] rfl (V_Mo_part_b347 E d kc308 (F_Mo_part_b319 kc308 n) hc308 ih x3 x5 x7 x7 s)
def F_Mo_part_b308 : Nat → Int32 → Int32 → sv_S → Option (Int32 × sv_S)
  | 0 => fun _ _ _ => none
  | n + 1 => fun x3 x5 s =>
    if x5 ≤ 0 then
      if sv_ib x3 6 = true then
        some (s.1 220 x3.toNatClampNeg, s)
      else none
    else
    F_Mo_part_b319 (F_Mo_part_b308  n) ss_F x3 x5 (0 : Int32) (1 : Int32) s
theorem V_Mo_part_b308 (E : sv_E) (d : Nat) : ∀ (n : Nat) (x3 : Int32) (x5 : Int32) (s : sv_S), sv_V E m_Mo_part (d + 8) ss_i 308 [(0, sv_r E 187), (3, .int x3), (5, .int x5)] [] (ss_e s) (F_Mo_part_b308 n x3 x5 s) := by
  intro n
  induction n with
  | zero => intro x3 x5 s; exact sv_none
  | succ n ih =>
    intro x3 x5 s
    unfold F_Mo_part_b308
    refine sv_iload (pc := 308) 2 (sv_d k_Mo_part 171 rfl) rfl ?_
    refine sv_if_le (pc := 310) (tgt := 378) (sv_d k_Mo_part 172 rfl) (by decide) ?_ ?_
    · refine sv_aload_n (pc := 378) 0 (sv_d k_Mo_part 208 rfl) rfl rfl ?_
      refine sv_getf (pc := 379) 48 (sv_d k_Mo_part 209 rfl) cf12 (by decide) w1350 kd187 (ss_lt (by decide)) (lr_187_48 E _) ?_
      refine sv_iload_n (pc := 382) 1 (sv_d k_Mo_part 210 rfl) rfl rfl ?_
      refine ss_iald (pc := 383) (n := 6) (sv_d k_Mo_part 211 rfl) kd220 (ss_lt (by decide)) rfl ?_
      exact sv_ret (pc := 384) (sv_d k_Mo_part 212 rfl) ⟨_, rfl, rfl⟩ rfl
    · refine sv_iconst (pc := 313) (v := (0 : Int32)) (sv_d k_Mo_part 173 rfl) (by decide) ?_
      refine sv_istore (pc := 314) (lv' := [(6, .int (0 : Int32)), (0, sv_r E 187), (3, .int x3), (5, .int x5)]) (sv_d k_Mo_part 174 rfl) (by decide) rfl ?_
      refine sv_iconst (pc := 316) (v := (1 : Int32)) (sv_d k_Mo_part 175 rfl) (by decide) ?_
      refine sv_istore (pc := 317) (lv' := [(7, .int (1 : Int32)), (6, .int (0 : Int32)), (0, sv_r E 187), (3, .int x3), (5, .int x5)]) (sv_d k_Mo_part 176 rfl) (by decide) rfl ?_
      exact sv_loc [2, 3, 4, 1, 0] rfl (V_Mo_part_b319 E d (F_Mo_part_b308  n) ih ss_F x3 x5 (0 : Int32) (1 : Int32) s)
def F_Mo_part_b289 (kc221 : Int32 → Int32 → Int32 → Int32 → Int32 → sv_S → Option (Int32 × sv_S)) (x1 : Int32) (x3 : Int32) (x4 : Int32) (x5 : Int32) (x6 : Int32) (t1 : Int32) (t2 : Int32) (s : sv_S) : Option (Int32 × sv_S) :=
  if sv_ib t1 6 = true then
    ss_let (ss_setI s 221 t1.toNatClampNeg t2) fun s12 =>
    if sv_ib x6 6 = true then
      ss_let (x5 - (s12.1 220 x6.toNatClampNeg)) fun v13 =>
      ss_let (x6 + (1 : Int32)) fun v14 =>
      kc221 x1 x3 x4 v13 v14 s12
    else none
  else none
theorem V_Mo_part_b289 (E : sv_E) (d : Nat) (kc221 : Int32 → Int32 → Int32 → Int32 → Int32 → sv_S → Option (Int32 × sv_S)) (hc221 : ∀ (x1 : Int32) (x3 : Int32) (x4 : Int32) (x5 : Int32) (x6 : Int32) (s : sv_S), sv_V E m_Mo_part (d + 8) ss_i 221 [(0, sv_r E 187), (1, .int x1), (3, .int x3), (4, .int x4), (5, .int x5), (6, .int x6)] [] (ss_e s) (kc221 x1 x3 x4 x5 x6 s)) (x1 : Int32) (x3 : Int32) (x4 : Int32) (x5 : Int32) (x6 : Int32) (t1 : Int32) (t2 : Int32) (s : sv_S) : sv_V E m_Mo_part (d + 8) ss_i 289 [(0, sv_r E 187), (1, .int x1), (3, .int x3), (4, .int x4), (5, .int x5), (6, .int x6)] [.int t2, .int t1, sv_r E 221] (ss_e s) (F_Mo_part_b289 kc221 x1 x3 x4 x5 x6 t1 t2 s) := by
  unfold F_Mo_part_b289
  refine ss_iast (pc := 289) (n := 6) (sv_d k_Mo_part 161 rfl) kd221 (by decide) (ss_lt (by decide)) rfl (ss_lets (fun s12 e_s12 => ?_))
  refine sv_iload (pc := 290) 4 (sv_d k_Mo_part 162 rfl) rfl ?_
  refine sv_aload_n (pc := 292) 0 (sv_d k_Mo_part 163 rfl) rfl rfl ?_
  refine sv_getf (pc := 293) 48 (sv_d k_Mo_part 164 rfl) cf12 (by decide) w1350 kd187 (ss_lt (by decide)) (lr_187_48 E _) ?_
  refine sv_iload (pc := 296) 5 (sv_d k_Mo_part 165 rfl) rfl ?_
  refine ss_iald (pc := 298) (n := 6) (sv_d k_Mo_part 166 rfl) kd220 (ss_lt (by decide)) rfl ?_
  refine sv_isub (pc := 299) (sv_d k_Mo_part 167 rfl) ?_
  refine ss_top (fun v13 e_v13 => ?_)
  refine sv_istore (pc := 300) (lv' := [(5, .int v13), (0, sv_r E 187), (1, .int x1), (3, .int x3), (4, .int x4), (6, .int x6)]) (sv_d k_Mo_part 168 rfl) (by decide) rfl ?_
  refine ss_letr (fun v14 e_v14 => ?_)
  refine sv_iinc (pc := 302) (v := v14) (lv' := [(6, .int v14), (5, .int v13), (0, sv_r E 187), (1, .int x1), (3, .int x3), (4, .int x4)]) (sv_d k_Mo_part 169 rfl) (n := 5) rfl (by rw [e_v14]; rfl) (by decide) rfl ?_
  refine sv_goto (pc := 305) (tgt := 221) (sv_d k_Mo_part 170 rfl) (by decide) ?_
  exact sv_loc [2, 3, 4, 5, 1, 0] rfl (hc221 x1 x3 x4 v13 v14 s12)
def F_Mo_part_b221 : Nat → Int32 → Int32 → Int32 → Int32 → Int32 → sv_S → Option (Int32 × sv_S)
  | 0 => fun _ _ _ _ _ _ => none
  | n + 1 => fun x1 x3 x4 x5 x6 s =>
    if (6 : Int32) ≤ x6 then
      F_Mo_part_b308 ss_F x3 x5 s
    else
    if sv_ib x1 60 = true then
      if sv_ib x6 6 = true then
        if x4 = 0 then none else
        if sv_ib x6 6 = true then
          ss_let (ss_setI s 220 x6.toNatClampNeg (((s.1 209 x1.toNatClampNeg) * (s.1 219 x6.toNatClampNeg)) / x4)) fun s11 =>
          if sv_ib x6 6 = true then
            if (s11.1 219 x6.toNatClampNeg) = 0 then
              F_Mo_part_b289 (F_Mo_part_b221  n) x1 x3 x4 x5 x6 x6 (-1 : Int32) s11
            else
            if sv_ib x1 60 = true then
              if sv_ib x6 6 = true then
                if x4 = 0 then none else
                F_Mo_part_b289 (F_Mo_part_b221  n) x1 x3 x4 x5 x6 x6 (((s11.1 209 x1.toNatClampNeg) * (s11.1 219 x6.toNatClampNeg)) - ((s11.1 209 x1.toNatClampNeg) * (s11.1 219 x6.toNatClampNeg)) / x4 * x4) s11
              else none
            else none
          else none
        else none
      else none
    else none
theorem V_Mo_part_b221 (E : sv_E) (d : Nat) : ∀ (n : Nat) (x1 : Int32) (x3 : Int32) (x4 : Int32) (x5 : Int32) (x6 : Int32) (s : sv_S), sv_V E m_Mo_part (d + 8) ss_i 221 [(0, sv_r E 187), (1, .int x1), (3, .int x3), (4, .int x4), (5, .int x5), (6, .int x6)] [] (ss_e s) (F_Mo_part_b221 n x1 x3 x4 x5 x6 s) := by
  intro n
  induction n with
  | zero => intro x1 x3 x4 x5 x6 s; exact sv_none
  | succ n ih =>
    intro x1 x3 x4 x5 x6 s
    unfold F_Mo_part_b221
    refine sv_iload (pc := 221) 5 (sv_d k_Mo_part 122 rfl) rfl ?_
    refine sv_bipush (pc := 223) (v := (6 : Int32)) (sv_d k_Mo_part 123 rfl) (by decide) ?_
    refine sv_icmp_ge (pc := 225) (tgt := 308) (sv_d k_Mo_part 124 rfl) (by decide) ?_ ?_
    · exact sv_loc [0, 2, 4] rfl (V_Mo_part_b308 E d ss_F x3 x5 s)
    · refine sv_aload_n (pc := 228) 0 (sv_d k_Mo_part 125 rfl) rfl rfl ?_
      refine sv_getf (pc := 229) 48 (sv_d k_Mo_part 126 rfl) cf12 (by decide) w1350 kd187 (ss_lt (by decide)) (lr_187_48 E _) ?_
      refine sv_iload (pc := 232) 5 (sv_d k_Mo_part 127 rfl) rfl ?_
      refine sv_aload_n (pc := 234) 0 (sv_d k_Mo_part 128 rfl) rfl rfl ?_
      refine sv_getf (pc := 235) 37 (sv_d k_Mo_part 129 rfl) cf12 (by decide) w1339 kd187 (ss_lt (by decide)) (lr_187_37 E _) ?_
      refine sv_iload_n (pc := 238) 1 (sv_d k_Mo_part 130 rfl) rfl rfl ?_
      refine ss_iald (pc := 239) (n := 60) (sv_d k_Mo_part 131 rfl) kd209 (ss_lt (by decide)) rfl ?_
      refine sv_aload_n (pc := 240) 0 (sv_d k_Mo_part 132 rfl) rfl rfl ?_
      refine sv_getf (pc := 241) 47 (sv_d k_Mo_part 133 rfl) cf12 (by decide) w1349 kd187 (ss_lt (by decide)) (lr_187_47 E _) ?_
      refine sv_iload (pc := 244) 5 (sv_d k_Mo_part 134 rfl) rfl ?_
      refine ss_iald (pc := 246) (n := 6) (sv_d k_Mo_part 135 rfl) kd219 (ss_lt (by decide)) rfl ?_
      refine sv_imul (pc := 247) (sv_d k_Mo_part 136 rfl) ?_
      refine sv_iload (pc := 248) 3 (sv_d k_Mo_part 137 rfl) rfl ?_
      refine sv_idiv (pc := 250) (sv_d k_Mo_part 138 rfl) ?_
      refine ss_iast (pc := 251) (n := 6) (sv_d k_Mo_part 139 rfl) kd220 (by decide) (ss_lt (by decide)) rfl (ss_lets (fun s11 e_s11 => ?_))
      refine sv_aload_n (pc := 252) 0 (sv_d k_Mo_part 140 rfl) rfl rfl ?_
      refine sv_getf (pc := 253) 49 (sv_d k_Mo_part 141 rfl) cf12 (by decide) w1351 kd187 (ss_lt (by decide)) (lr_187_49 E _) ?_
      refine sv_iload (pc := 256) 5 (sv_d k_Mo_part 142 rfl) rfl ?_
      refine sv_aload_n (pc := 258) 0 (sv_d k_Mo_part 143 rfl) rfl rfl ?_
      refine sv_getf (pc := 259) 47 (sv_d k_Mo_part 144 rfl) cf12 (by decide) w1349 kd187 (ss_lt (by decide)) (lr_187_47 E _) ?_
      refine sv_iload (pc := 262) 5 (sv_d k_Mo_part 145 rfl) rfl ?_
      refine ss_iald (pc := 264) (n := 6) (sv_d k_Mo_part 146 rfl) kd219 (ss_lt (by decide)) rfl ?_
      refine sv_if_ne (pc := 265) (tgt := 272) (sv_d k_Mo_part 147 rfl) (by decide) ?_ ?_
      · refine sv_aload_n (pc := 272) 0 (sv_d k_Mo_part 150 rfl) rfl rfl ?_
        refine sv_getf (pc := 273) 37 (sv_d k_Mo_part 151 rfl) cf12 (by decide) w1339 kd187 (ss_lt (by decide)) (lr_187_37 E _) ?_
        refine sv_iload_n (pc := 276) 1 (sv_d k_Mo_part 152 rfl) rfl rfl ?_
        refine ss_iald (pc := 277) (n := 60) (sv_d k_Mo_part 153 rfl) kd209 (ss_lt (by decide)) rfl ?_
        refine sv_aload_n (pc := 278) 0 (sv_d k_Mo_part 154 rfl) rfl rfl ?_
        refine sv_getf (pc := 279) 47 (sv_d k_Mo_part 155 rfl) cf12 (by decide) w1349 kd187 (ss_lt (by decide)) (lr_187_47 E _) ?_
        refine sv_iload (pc := 282) 5 (sv_d k_Mo_part 156 rfl) rfl ?_
        refine ss_iald (pc := 284) (n := 6) (sv_d k_Mo_part 157 rfl) kd219 (ss_lt (by decide)) rfl ?_
        refine sv_imul (pc := 285) (sv_d k_Mo_part 158 rfl) ?_
        refine sv_iload (pc := 286) 3 (sv_d k_Mo_part 159 rfl) rfl ?_
        refine sv_irem (pc := 288) (sv_d k_Mo_part 160 rfl) ?_
        exact sv_loc [0, 1, 2, 3, 4, 5] rfl (V_Mo_part_b289 E d (F_Mo_part_b221  n) ih x1 x3 x4 x5 x6 x6 (((s11.1 209 x1.toNatClampNeg) * (s11.1 219 x6.toNatClampNeg)) - ((s11.1 209 x1.toNatClampNeg) * (s11.1 219 x6.toNatClampNeg)) / x4 * x4) s11)
      · refine sv_iconst (pc := 268) (v := (-1 : Int32)) (sv_d k_Mo_part 148 rfl) (by decide) ?_
        refine sv_goto (pc := 269) (tgt := 289) (sv_d k_Mo_part 149 rfl) (by decide) ?_
        exact sv_loc [0, 1, 2, 3, 4, 5] rfl (V_Mo_part_b289 E d (F_Mo_part_b221  n) ih x1 x3 x4 x5 x6 x6 (-1 : Int32) s11)
def F_Mo_part_b185 : Nat → Int32 → Int32 → Int32 → Int32 → sv_S → Option (Int32 × sv_S)
  | 0 => fun _ _ _ _ _ => none
  | n + 1 => fun x1 x3 x4 x5 s =>
    if (6 : Int32) ≤ x5 then
      if sv_ib x1 60 = true then
        ss_let (s.1 209 x1.toNatClampNeg) fun v6 =>
        F_Mo_part_b221 ss_F x1 x3 x4 v6 (0 : Int32) s
      else none
    else
    if sv_ib x5 6 = true then
      ss_let (x4 + (s.1 219 x5.toNatClampNeg)) fun v15 =>
      ss_let (x5 + (1 : Int32)) fun v16 =>
      F_Mo_part_b185  n x1 x3 v15 v16 s
    else none
theorem V_Mo_part_b185 (E : sv_E) (d : Nat) : ∀ (n : Nat) (x1 : Int32) (x3 : Int32) (x4 : Int32) (x5 : Int32) (s : sv_S), sv_V E m_Mo_part (d + 8) ss_i 185 [(0, sv_r E 187), (1, .int x1), (3, .int x3), (4, .int x4), (5, .int x5)] [] (ss_e s) (F_Mo_part_b185 n x1 x3 x4 x5 s) := by
  intro n
  induction n with
  | zero => intro x1 x3 x4 x5 s; exact sv_none
  | succ n ih =>
    intro x1 x3 x4 x5 s
    unfold F_Mo_part_b185
    refine sv_iload (pc := 185) 4 (sv_d k_Mo_part 103 rfl) rfl ?_
    refine sv_bipush (pc := 187) (v := (6 : Int32)) (sv_d k_Mo_part 104 rfl) (by decide) ?_
    refine sv_icmp_ge (pc := 189) (tgt := 210) (sv_d k_Mo_part 105 rfl) (by decide) ?_ ?_
    · refine sv_aload_n (pc := 210) 0 (sv_d k_Mo_part 115 rfl) rfl rfl ?_
      refine sv_getf (pc := 211) 37 (sv_d k_Mo_part 116 rfl) cf12 (by decide) w1339 kd187 (ss_lt (by decide)) (lr_187_37 E _) ?_
      refine sv_iload_n (pc := 214) 1 (sv_d k_Mo_part 117 rfl) rfl rfl ?_
      refine ss_iald (pc := 215) (n := 60) (sv_d k_Mo_part 118 rfl) kd209 (ss_lt (by decide)) rfl ?_
      refine ss_top (fun v6 e_v6 => ?_)
      refine sv_istore (pc := 216) (lv' := [(5, .int v6), (0, sv_r E 187), (1, .int x1), (3, .int x3), (4, .int x4)]) (sv_d k_Mo_part 119 rfl) (by decide) rfl ?_
      refine sv_iconst (pc := 218) (v := (0 : Int32)) (sv_d k_Mo_part 120 rfl) (by decide) ?_
      refine sv_istore (pc := 219) (lv' := [(6, .int (0 : Int32)), (5, .int v6), (0, sv_r E 187), (1, .int x1), (3, .int x3), (4, .int x4)]) (sv_d k_Mo_part 121 rfl) (by decide) rfl ?_
      exact sv_loc [2, 3, 4, 5, 1, 0] rfl (V_Mo_part_b221 E d ss_F x1 x3 x4 v6 (0 : Int32) s)
    · refine sv_iload (pc := 192) 3 (sv_d k_Mo_part 106 rfl) rfl ?_
      refine sv_aload_n (pc := 194) 0 (sv_d k_Mo_part 107 rfl) rfl rfl ?_
      refine sv_getf (pc := 195) 47 (sv_d k_Mo_part 108 rfl) cf12 (by decide) w1349 kd187 (ss_lt (by decide)) (lr_187_47 E _) ?_
      refine sv_iload (pc := 198) 4 (sv_d k_Mo_part 109 rfl) rfl ?_
      refine ss_iald (pc := 200) (n := 6) (sv_d k_Mo_part 110 rfl) kd219 (ss_lt (by decide)) rfl ?_
      refine sv_iadd (pc := 201) (sv_d k_Mo_part 111 rfl) ?_
      refine ss_top (fun v15 e_v15 => ?_)
      refine sv_istore (pc := 202) (lv' := [(4, .int v15), (0, sv_r E 187), (1, .int x1), (3, .int x3), (5, .int x5)]) (sv_d k_Mo_part 112 rfl) (by decide) rfl ?_
      refine ss_letr (fun v16 e_v16 => ?_)
      refine sv_iinc (pc := 204) (v := v16) (lv' := [(5, .int v16), (4, .int v15), (0, sv_r E 187), (1, .int x1), (3, .int x3)]) (sv_d k_Mo_part 113 rfl) (n := 4) rfl (by rw [e_v16]; rfl) (by decide) rfl ?_
      refine sv_goto (pc := 207) (tgt := 185) (sv_d k_Mo_part 114 rfl) (by decide) ?_
      exact sv_loc [2, 3, 4, 1, 0] rfl (ih x1 x3 v15 v16 s)
def F_Mo_part_b172 (kc112 : Int32 → Int32 → Int32 → sv_S → Option (Int32 × sv_S)) (x1 : Int32) (x3 : Int32) (x4 : Int32) (t1 : Int32) (t2 : Int32) (s : sv_S) : Option (Int32 × sv_S) :=
  if sv_ib t1 6 = true then
    ss_let (ss_setI s 219 t1.toNatClampNeg t2) fun s18 =>
    ss_let (x4 + (1 : Int32)) fun v19 =>
    kc112 x1 x3 v19 s18
  else none
theorem V_Mo_part_b172 (E : sv_E) (d : Nat) (kc112 : Int32 → Int32 → Int32 → sv_S → Option (Int32 × sv_S)) (hc112 : ∀ (x1 : Int32) (x3 : Int32) (x4 : Int32) (s : sv_S), sv_V E m_Mo_part (d + 8) ss_i 112 [(0, sv_r E 187), (1, .int x1), (3, .int x3), (4, .int x4)] [] (ss_e s) (kc112 x1 x3 x4 s)) (x1 : Int32) (x3 : Int32) (x4 : Int32) (t1 : Int32) (t2 : Int32) (s : sv_S) : sv_V E m_Mo_part (d + 8) ss_i 172 [(0, sv_r E 187), (1, .int x1), (3, .int x3), (4, .int x4)] [.int t2, .int t1, sv_r E 219] (ss_e s) (F_Mo_part_b172 kc112 x1 x3 x4 t1 t2 s) := by
  unfold F_Mo_part_b172
  refine ss_iast (pc := 172) (n := 6) (sv_d k_Mo_part 96 rfl) kd219 (by decide) (ss_lt (by decide)) rfl (ss_lets (fun s18 e_s18 => ?_))
  refine ss_letr (fun v19 e_v19 => ?_)
  refine sv_iinc (pc := 173) (v := v19) (lv' := [(4, .int v19), (0, sv_r E 187), (1, .int x1), (3, .int x3)]) (sv_d k_Mo_part 97 rfl) (n := 3) rfl (by rw [e_v19]; rfl) (by decide) rfl ?_
  refine sv_goto (pc := 176) (tgt := 112) (sv_d k_Mo_part 98 rfl) (by decide) ?_
  exact sv_loc [1, 2, 3, 0] rfl (hc112 x1 x3 v19 s18)
def F_Mo_part_b112 : Nat → Int32 → Int32 → Int32 → sv_S → Option (Int32 × sv_S)
  | 0 => fun _ _ _ _ => none
  | n + 1 => fun x1 x3 x4 s =>
    if (s.1 187 9) ≤ x4 then
      F_Mo_part_b185 ss_F x1 x3 (0 : Int32) (0 : Int32) s
    else
    if sv_ib x4 16 = true then
      if sv_ib (s.1 194 x4.toNatClampNeg) 40 = true then
        ss_let (s.1 188 (s.1 194 x4.toNatClampNeg).toNatClampNeg) fun v17 =>
        if (s.1 187 19) = 0 then
          F_Mo_part_b172 (F_Mo_part_b112  n) x1 x3 x4 v17 (1 : Int32) s
        else
        if sv_ib v17 6 = true then
          if sv_ib x4 16 = true then
            if sv_ib (s.1 194 x4.toNatClampNeg) 40 = true then
              F_Mo_part_b172 (F_Mo_part_b112  n) x1 x3 x4 v17 ((s.1 219 v17.toNatClampNeg) + (s.1 191 (s.1 194 x4.toNatClampNeg).toNatClampNeg)) s
            else none
          else none
        else none
      else none
    else none
theorem V_Mo_part_b112 (E : sv_E) (d : Nat) : ∀ (n : Nat) (x1 : Int32) (x3 : Int32) (x4 : Int32) (s : sv_S), sv_V E m_Mo_part (d + 8) ss_i 112 [(0, sv_r E 187), (1, .int x1), (3, .int x3), (4, .int x4)] [] (ss_e s) (F_Mo_part_b112 n x1 x3 x4 s) := by
  intro n
  induction n with
  | zero => intro x1 x3 x4 s; exact sv_none
  | succ n ih =>
    intro x1 x3 x4 s
    unfold F_Mo_part_b112
    refine sv_iload (pc := 112) 3 (sv_d k_Mo_part 64 rfl) rfl ?_
    refine sv_aload_n (pc := 114) 0 (sv_d k_Mo_part 65 rfl) rfl rfl ?_
    refine sv_getf (pc := 115) 9 (sv_d k_Mo_part 66 rfl) cf12 (by decide) w1311 kd187 (ss_lt (by decide)) rfl ?_
    refine sv_icmp_ge (pc := 118) (tgt := 179) (sv_d k_Mo_part 67 rfl) (by decide) ?_ ?_
    · refine sv_iconst (pc := 179) (v := (0 : Int32)) (sv_d k_Mo_part 99 rfl) (by decide) ?_
      refine sv_istore (pc := 180) (lv' := [(4, .int (0 : Int32)), (0, sv_r E 187), (1, .int x1), (3, .int x3)]) (sv_d k_Mo_part 100 rfl) (by decide) rfl ?_
      refine sv_iconst (pc := 182) (v := (0 : Int32)) (sv_d k_Mo_part 101 rfl) (by decide) ?_
      refine sv_istore (pc := 183) (lv' := [(5, .int (0 : Int32)), (4, .int (0 : Int32)), (0, sv_r E 187), (1, .int x1), (3, .int x3)]) (sv_d k_Mo_part 102 rfl) (by decide) rfl ?_
      exact sv_loc [2, 3, 4, 1, 0] rfl (V_Mo_part_b185 E d ss_F x1 x3 (0 : Int32) (0 : Int32) s)
    · refine sv_aload_n (pc := 121) 0 (sv_d k_Mo_part 68 rfl) rfl rfl ?_
      refine sv_getf (pc := 122) 2 (sv_d k_Mo_part 69 rfl) cf12 (by decide) w1304 kd187 (ss_lt (by decide)) (lr_187_2 E _) ?_
      refine sv_aload_n (pc := 125) 0 (sv_d k_Mo_part 70 rfl) rfl rfl ?_
      refine sv_getf (pc := 126) 8 (sv_d k_Mo_part 71 rfl) cf12 (by decide) w1310 kd187 (ss_lt (by decide)) (lr_187_8 E _) ?_
      refine sv_iload (pc := 129) 3 (sv_d k_Mo_part 72 rfl) rfl ?_
      refine ss_iald (pc := 131) (n := 16) (sv_d k_Mo_part 73 rfl) kd194 (ss_lt (by decide)) rfl ?_
      refine ss_iald (pc := 132) (n := 40) (sv_d k_Mo_part 74 rfl) kd188 (ss_lt (by decide)) rfl ?_
      refine ss_top (fun v17 e_v17 => ?_)
      refine sv_istore (pc := 133) (lv' := [(5, .int v17), (0, sv_r E 187), (1, .int x1), (3, .int x3), (4, .int x4)]) (sv_d k_Mo_part 75 rfl) (by decide) rfl ?_
      refine sv_aload_n (pc := 135) 1 (sv_d k_Mo_part 76 rfl) rfl rfl ?_
      refine sv_getf (pc := 136) 47 (sv_d k_Mo_part 77 rfl) cf12 (by decide) w1349 kd187 (ss_lt (by decide)) (lr_187_47 E _) ?_
      refine sv_iload (pc := 139) 0 (sv_d k_Mo_part 78 rfl) rfl ?_
      refine sv_aload_n (pc := 141) 1 (sv_d k_Mo_part 79 rfl) rfl rfl ?_
      refine sv_getf (pc := 142) 19 (sv_d k_Mo_part 80 rfl) cf12 (by decide) w1321 kd187 (ss_lt (by decide)) rfl ?_
      refine sv_if_eq (pc := 145) (tgt := 171) (sv_d k_Mo_part 81 rfl) (by decide) ?_ ?_
      · refine sv_iconst (pc := 171) (v := (1 : Int32)) (sv_d k_Mo_part 95 rfl) (by decide) ?_
        exact sv_loc [1, 2, 3, 4] rfl (V_Mo_part_b172 E d (F_Mo_part_b112  n) ih x1 x3 x4 v17 (1 : Int32) s)
      · refine sv_aload_n (pc := 148) 1 (sv_d k_Mo_part 82 rfl) rfl rfl ?_
        refine sv_getf (pc := 149) 47 (sv_d k_Mo_part 83 rfl) cf12 (by decide) w1349 kd187 (ss_lt (by decide)) (lr_187_47 E _) ?_
        refine sv_iload (pc := 152) 0 (sv_d k_Mo_part 84 rfl) rfl ?_
        refine ss_iald (pc := 154) (n := 6) (sv_d k_Mo_part 85 rfl) kd219 (ss_lt (by decide)) rfl ?_
        refine sv_aload_n (pc := 155) 1 (sv_d k_Mo_part 86 rfl) rfl rfl ?_
        refine sv_getf (pc := 156) 5 (sv_d k_Mo_part 87 rfl) cf12 (by decide) w1307 kd187 (ss_lt (by decide)) (lr_187_5 E _) ?_
        refine sv_aload_n (pc := 159) 1 (sv_d k_Mo_part 88 rfl) rfl rfl ?_
        refine sv_getf (pc := 160) 8 (sv_d k_Mo_part 89 rfl) cf12 (by decide) w1310 kd187 (ss_lt (by decide)) (lr_187_8 E _) ?_
        refine sv_iload (pc := 163) 4 (sv_d k_Mo_part 90 rfl) rfl ?_
        refine ss_iald (pc := 165) (n := 16) (sv_d k_Mo_part 91 rfl) kd194 (ss_lt (by decide)) rfl ?_
        refine ss_iald (pc := 166) (n := 40) (sv_d k_Mo_part 92 rfl) kd191 (ss_lt (by decide)) rfl ?_
        refine sv_iadd (pc := 167) (sv_d k_Mo_part 93 rfl) ?_
        refine sv_goto (pc := 168) (tgt := 172) (sv_d k_Mo_part 94 rfl) (by decide) ?_
        exact sv_loc [1, 2, 3, 4] rfl (V_Mo_part_b172 E d (F_Mo_part_b112  n) ih x1 x3 x4 v17 ((s.1 219 v17.toNatClampNeg) + (s.1 191 (s.1 194 x4.toNatClampNeg).toNatClampNeg)) s)
def F_Mo_part_b88 : Nat → Int32 → Int32 → Int32 → sv_S → Option (Int32 × sv_S)
  | 0 => fun _ _ _ _ => none
  | n + 1 => fun x1 x3 x4 s =>
    if (6 : Int32) ≤ x4 then
      F_Mo_part_b112 ss_F x1 x3 (0 : Int32) s
    else
    if sv_ib x4 6 = true then
      ss_let (ss_setI s 219 x4.toNatClampNeg (0 : Int32)) fun s20 =>
      ss_let (x4 + (1 : Int32)) fun v21 =>
      F_Mo_part_b88  n x1 x3 v21 s20
    else none
theorem V_Mo_part_b88 (E : sv_E) (d : Nat) : ∀ (n : Nat) (x1 : Int32) (x3 : Int32) (x4 : Int32) (s : sv_S), sv_V E m_Mo_part (d + 8) ss_i 88 [(0, sv_r E 187), (1, .int x1), (3, .int x3), (4, .int x4)] [] (ss_e s) (F_Mo_part_b88 n x1 x3 x4 s) := by
  intro n
  induction n with
  | zero => intro x1 x3 x4 s; exact sv_none
  | succ n ih =>
    intro x1 x3 x4 s
    unfold F_Mo_part_b88
    refine sv_iload (pc := 88) 3 (sv_d k_Mo_part 52 rfl) rfl ?_
    refine sv_bipush (pc := 90) (v := (6 : Int32)) (sv_d k_Mo_part 53 rfl) (by decide) ?_
    refine sv_icmp_ge (pc := 92) (tgt := 109) (sv_d k_Mo_part 54 rfl) (by decide) ?_ ?_
    · refine sv_iconst (pc := 109) (v := (0 : Int32)) (sv_d k_Mo_part 62 rfl) (by decide) ?_
      refine sv_istore (pc := 110) (lv' := [(4, .int (0 : Int32)), (0, sv_r E 187), (1, .int x1), (3, .int x3)]) (sv_d k_Mo_part 63 rfl) (by decide) rfl ?_
      exact sv_loc [1, 2, 3, 0] rfl (V_Mo_part_b112 E d ss_F x1 x3 (0 : Int32) s)
    · refine sv_aload_n (pc := 95) 0 (sv_d k_Mo_part 55 rfl) rfl rfl ?_
      refine sv_getf (pc := 96) 47 (sv_d k_Mo_part 56 rfl) cf12 (by decide) w1349 kd187 (ss_lt (by decide)) (lr_187_47 E _) ?_
      refine sv_iload (pc := 99) 3 (sv_d k_Mo_part 57 rfl) rfl ?_
      refine sv_iconst (pc := 101) (v := (0 : Int32)) (sv_d k_Mo_part 58 rfl) (by decide) ?_
      refine ss_iast (pc := 102) (n := 6) (sv_d k_Mo_part 59 rfl) kd219 (by decide) (ss_lt (by decide)) rfl (ss_lets (fun s20 e_s20 => ?_))
      refine ss_letr (fun v21 e_v21 => ?_)
      refine sv_iinc (pc := 103) (v := v21) (lv' := [(4, .int v21), (0, sv_r E 187), (1, .int x1), (3, .int x3)]) (sv_d k_Mo_part 60 rfl) (n := 3) rfl (by rw [e_v21]; rfl) (by decide) rfl ?_
      refine sv_goto (pc := 106) (tgt := 88) (sv_d k_Mo_part 61 rfl) (by decide) ?_
      exact sv_loc [1, 2, 3, 0] rfl (ih x1 x3 v21 s20)
def F_Mo_part_b41 (x1 : Int32) (x2 : Int32) (x3 : Int32) (s : sv_S) : Option (Int32 × sv_S) :=
  (F_Mo_isDay x2 s).bind fun r3 =>
  if r3 = 0 then
    some ((-2 : Int32), s)
  else
  if sv_ib x1 60 = true then
    if sv_ib x1 60 = true then
      (F_Mo_findWay (s.1 207 x1.toNatClampNeg) (s.1 208 x1.toNatClampNeg) s).bind fun r4 =>
      if r4.1 = 0 then
        some ((-3 : Int32), r4.2)
      else
      if sv_ib x1 60 = true then
        (F_Mo_look (r4.2.1 206 x1.toNatClampNeg) x2 r4.2).bind fun r5 =>
        F_Mo_part_b88 ss_F x1 x3 (0 : Int32) r5
      else none
    else none
  else none
theorem V_Mo_part_b41 (E : sv_E) (d : Nat) (x1 : Int32) (x2 : Int32) (x3 : Int32) (s : sv_S) : sv_V E m_Mo_part (d + 8) ss_i 41 [(0, sv_r E 187), (1, .int x1), (2, .int x2), (3, .int x3)] [] (ss_e s) (F_Mo_part_b41 x1 x2 x3 s) := by
  unfold F_Mo_part_b41
  refine sv_aload_n (pc := 41) 0 (sv_d k_Mo_part 24 rfl) rfl rfl ?_
  refine sv_iload_n (pc := 42) 2 (sv_d k_Mo_part 25 rfl) rfl rfl ?_
  refine sv_callV (pc := 43) (ψ := (ss_pi s)) (As := [.int x2]) (rest := []) (c := 187) (sv_d k_Mo_part 26 rfl) g_Mo_isDay w1594 in_Mo_isDay se_Mo_isDay cf12 kd187 (ss_lt (by decide)) rfl (Nat.le_of_ble_eq_true rfl) (V_Mo_isDay E (d + 6) x2 s) (Nat.le_of_ble_eq_true rfl) rfl (fun r3 => ?_)
  show sv_V E _ _ _ 46 _ [.int r3] (ss_e s) _
  refine sv_if_ne (pc := 46) (tgt := 52) (sv_d k_Mo_part 27 rfl) (by decide) ?_ ?_
  · refine sv_aload_n (pc := 52) 0 (sv_d k_Mo_part 30 rfl) rfl rfl ?_
    refine sv_aload_n (pc := 53) 0 (sv_d k_Mo_part 31 rfl) rfl rfl ?_
    refine sv_getf (pc := 54) 35 (sv_d k_Mo_part 32 rfl) cf12 (by decide) w1337 kd187 (ss_lt (by decide)) (lr_187_35 E _) ?_
    refine sv_iload_n (pc := 57) 1 (sv_d k_Mo_part 33 rfl) rfl rfl ?_
    refine ss_iald (pc := 58) (n := 60) (sv_d k_Mo_part 34 rfl) kd207 (ss_lt (by decide)) rfl ?_
    refine sv_aload_n (pc := 59) 0 (sv_d k_Mo_part 35 rfl) rfl rfl ?_
    refine sv_getf (pc := 60) 36 (sv_d k_Mo_part 36 rfl) cf12 (by decide) w1338 kd187 (ss_lt (by decide)) (lr_187_36 E _) ?_
    refine sv_iload_n (pc := 63) 1 (sv_d k_Mo_part 37 rfl) rfl rfl ?_
    refine ss_iald (pc := 64) (n := 60) (sv_d k_Mo_part 38 rfl) kd208 (ss_lt (by decide)) rfl ?_
    refine sv_callV (pc := 65) (ψ := ss_i) (As := [.int (s.1 207 x1.toNatClampNeg), .int (s.1 208 x1.toNatClampNeg)]) (rest := []) (c := 187) (sv_d k_Mo_part 39 rfl) g_Mo_findWay w1578 in_Mo_findWay se_Mo_findWay cf12 kd187 (ss_lt (by decide)) rfl (Nat.le_of_ble_eq_true rfl) (V_Mo_findWay E (d + 6) (s.1 207 x1.toNatClampNeg) (s.1 208 x1.toNatClampNeg) s) (Nat.le_of_ble_eq_true rfl) rfl (fun r4 => ?_)
    show sv_V E _ _ _ 68 _ [.int r4.1] (ss_e r4.2) _
    refine sv_if_ne (pc := 68) (tgt := 74) (sv_d k_Mo_part 40 rfl) (by decide) ?_ ?_
    · refine sv_aload_n (pc := 74) 0 (sv_d k_Mo_part 43 rfl) rfl rfl ?_
      refine sv_aload_n (pc := 75) 0 (sv_d k_Mo_part 44 rfl) rfl rfl ?_
      refine sv_getf (pc := 76) 34 (sv_d k_Mo_part 45 rfl) cf12 (by decide) w1336 kd187 (ss_lt (by decide)) (lr_187_34 E _) ?_
      refine sv_iload_n (pc := 79) 1 (sv_d k_Mo_part 46 rfl) rfl rfl ?_
      refine ss_iald (pc := 80) (n := 60) (sv_d k_Mo_part 47 rfl) kd206 (ss_lt (by decide)) rfl ?_
      refine sv_iload_n (pc := 81) 2 (sv_d k_Mo_part 48 rfl) rfl rfl ?_
      refine sv_callV (pc := 82) (ψ := ss_v) (As := [.int (r4.2.1 206 x1.toNatClampNeg), .int x2]) (rest := []) (c := 187) (sv_d k_Mo_part 49 rfl) g_Mo_look w1670 in_Mo_look se_Mo_look cf12 kd187 (ss_lt (by decide)) rfl (Nat.le_of_ble_eq_true rfl) (V_Mo_look E (d + 0) (r4.2.1 206 x1.toNatClampNeg) x2 r4.2) (Nat.le_of_ble_eq_true rfl) rfl (fun r5 => ?_)
      show sv_V E _ _ _ 85 _ [] (ss_e r5) _
      refine sv_iconst (pc := 85) (v := (0 : Int32)) (sv_d k_Mo_part 50 rfl) (by decide) ?_
      refine sv_istore (pc := 86) (lv' := [(4, .int (0 : Int32)), (0, sv_r E 187), (1, .int x1), (2, .int x2), (3, .int x3)]) (sv_d k_Mo_part 51 rfl) (by decide) rfl ?_
      exact sv_loc [1, 2, 4, 0] rfl (V_Mo_part_b88 E d ss_F x1 x3 (0 : Int32) r5)
    · refine sv_bipush (pc := 71) (v := (-3 : Int32)) (sv_d k_Mo_part 41 rfl) (by decide) ?_
      exact sv_ret (pc := 73) (sv_d k_Mo_part 42 rfl) ⟨_, rfl, rfl⟩ rfl
  · refine sv_bipush (pc := 49) (v := (-2 : Int32)) (sv_d k_Mo_part 28 rfl) (by decide) ?_
    exact sv_ret (pc := 51) (sv_d k_Mo_part 29 rfl) ⟨_, rfl, rfl⟩ rfl
def F_Mo_part (x1 : Int32) (x2 : Int32) (x3 : Int32) (s : sv_S) : Option (Int32 × sv_S) :=
  (F_Mo_isRate x1 s).bind fun r1 =>
  if r1 = 0 then
    some ((-1 : Int32), s)
  else
  (F_Mo_isOwner x3 s).bind fun r2 =>
  if r2 = 0 then
    some ((-1 : Int32), s)
  else
  if sv_ib x1 60 = true then
    if (s.1 205 x1.toNatClampNeg) = (1 : Int32) then
      F_Mo_part_b41 x1 x2 x3 s
    else
    if sv_ib x1 60 = true then
      if (s.1 205 x1.toNatClampNeg) = (4 : Int32) then
        F_Mo_part_b41 x1 x2 x3 s
      else
      some ((-12 : Int32), s)
    else none
  else none
theorem V_Mo_part (E : sv_E) (d : Nat) (x1 : Int32) (x2 : Int32) (x3 : Int32) (s : sv_S) : sv_V E m_Mo_part (d + 8) ss_i 0 (lv_args 0 [sv_r E 187, .int x1, .int x2, .int x3]) [] (ss_e s) (F_Mo_part x1 x2 x3 s) := by
  show sv_V E m_Mo_part (d + 8) ss_i 0 [(0, sv_r E 187), (1, .int x1), (2, .int x2), (3, .int x3)] [] (ss_e s) _
  unfold F_Mo_part
  refine sv_aload_n (pc := 0) 0 (sv_d k_Mo_part 0 rfl) rfl rfl ?_
  refine sv_iload_n (pc := 1) 1 (sv_d k_Mo_part 1 rfl) rfl rfl ?_
  refine sv_callV (pc := 2) (ψ := (ss_pi s)) (As := [.int x1]) (rest := []) (c := 187) (sv_d k_Mo_part 2 rfl) g_Mo_isRate w1706 in_Mo_isRate se_Mo_isRate cf12 kd187 (ss_lt (by decide)) rfl (Nat.le_of_ble_eq_true rfl) (V_Mo_isRate E (d + 6) x1 s) (Nat.le_of_ble_eq_true rfl) rfl (fun r1 => ?_)
  show sv_V E _ _ _ 5 _ [.int r1] (ss_e s) _
  refine sv_if_eq (pc := 5) (tgt := 16) (sv_d k_Mo_part 3 rfl) (by decide) ?_ ?_
  · refine sv_iconst (pc := 16) (v := (-1 : Int32)) (sv_d k_Mo_part 8 rfl) (by decide) ?_
    exact sv_ret (pc := 17) (sv_d k_Mo_part 9 rfl) ⟨_, rfl, rfl⟩ rfl
  · refine sv_aload_n (pc := 8) 0 (sv_d k_Mo_part 4 rfl) rfl rfl ?_
    refine sv_iload_n (pc := 9) 3 (sv_d k_Mo_part 5 rfl) rfl rfl ?_
    refine sv_callV (pc := 10) (ψ := (ss_pi s)) (As := [.int x3]) (rest := []) (c := 187) (sv_d k_Mo_part 6 rfl) g_Mo_isOwner w1553 in_Mo_isOwner se_Mo_isOwner cf12 kd187 (ss_lt (by decide)) rfl (Nat.le_of_ble_eq_true rfl) (V_Mo_isOwner E (d + 6) x3 s) (Nat.le_of_ble_eq_true rfl) rfl (fun r2 => ?_)
    show sv_V E _ _ _ 13 _ [.int r2] (ss_e s) _
    refine sv_if_ne (pc := 13) (tgt := 18) (sv_d k_Mo_part 7 rfl) (by decide) ?_ ?_
    · refine sv_aload_n (pc := 18) 0 (sv_d k_Mo_part 10 rfl) rfl rfl ?_
      refine sv_getf (pc := 19) 33 (sv_d k_Mo_part 11 rfl) cf12 (by decide) w1335 kd187 (ss_lt (by decide)) (lr_187_33 E _) ?_
      refine sv_iload_n (pc := 22) 1 (sv_d k_Mo_part 12 rfl) rfl rfl ?_
      refine ss_iald (pc := 23) (n := 60) (sv_d k_Mo_part 13 rfl) kd205 (ss_lt (by decide)) rfl ?_
      refine sv_iconst (pc := 24) (v := (1 : Int32)) (sv_d k_Mo_part 14 rfl) (by decide) ?_
      refine sv_icmp_eq (pc := 25) (tgt := 41) (sv_d k_Mo_part 15 rfl) (by decide) ?_ ?_
      · exact sv_loc [0, 1, 2, 3] rfl (V_Mo_part_b41 E d x1 x2 x3 s)
      · refine sv_aload_n (pc := 28) 0 (sv_d k_Mo_part 16 rfl) rfl rfl ?_
        refine sv_getf (pc := 29) 33 (sv_d k_Mo_part 17 rfl) cf12 (by decide) w1335 kd187 (ss_lt (by decide)) (lr_187_33 E _) ?_
        refine sv_iload_n (pc := 32) 1 (sv_d k_Mo_part 18 rfl) rfl rfl ?_
        refine ss_iald (pc := 33) (n := 60) (sv_d k_Mo_part 19 rfl) kd205 (ss_lt (by decide)) rfl ?_
        refine sv_iconst (pc := 34) (v := (4 : Int32)) (sv_d k_Mo_part 20 rfl) (by decide) ?_
        refine sv_icmp_eq (pc := 35) (tgt := 41) (sv_d k_Mo_part 21 rfl) (by decide) ?_ ?_
        · exact sv_loc [0, 1, 2, 3] rfl (V_Mo_part_b41 E d x1 x2 x3 s)
        · refine sv_bipush (pc := 38) (v := (-12 : Int32)) (sv_d k_Mo_part 22 rfl) (by decide) ?_
          exact sv_ret (pc := 40) (sv_d k_Mo_part 23 rfl) ⟨_, rfl, rfl⟩ rfl
    · refine sv_iconst (pc := 16) (v := (-1 : Int32)) (sv_d k_Mo_part 8 rfl) (by decide) ?_
      exact sv_ret (pc := 17) (sv_d k_Mo_part 9 rfl) ⟨_, rfl, rfl⟩ rfl
