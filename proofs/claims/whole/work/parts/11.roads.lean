/-! Ro_isFull -/
abbrev m_Ro_isFull : sv_M := (yX7_isFull, cX7_isFull, 1, (some .boolean))
def t_Ro_isFull : List (Nat × Instr × Nat) := [(0, .aload_n 0, 1), (1, .getfield 33, 3), (4, .bipush 40, 2), (6, .if_icmp .lt 7, 3), (9, .iconst 1, 1), (10, .goto 4, 3), (13, .iconst 0, 1), (14, .ireturn, 1)]
theorem k_Ro_isFull : sv_tk m_Ro_isFull.2.1 t_Ro_isFull := by decide +kernel
theorem g_Ro_isFull : sv_G m_Ro_isFull 0 := ⟨by decide +kernel, sv_in 570 (by decide +kernel) rfl, sv_in 91 (by decide +kernel) rfl, ⟨by decide, by decide⟩, by decide +kernel, by decide⟩
theorem in_Ro_isFull : Cond.instanceMethod m_Ro_isFull.1 ∈ sv_T := sv_in 568 (by decide +kernel) rfl
theorem se_Ro_isFull : Cond.selects m_Ro_isFull.1.cls m_Ro_isFull.1 m_Ro_isFull.1 ∈ sv_T := sv_in 569 (by decide +kernel) rfl
def F_Ro_isFull (s : sv_S) : Option (Int32) :=
  if (s.1 65 4) < (40 : Int32) then
    some (0 : Int32)
  else
  some (1 : Int32)
theorem V_Ro_isFull (E : sv_E) (d : Nat) (s : sv_S) : sv_V E m_Ro_isFull (d + 0) (ss_pi s) 0 (lv_args 0 [sv_r E 65]) [] (ss_e s) (F_Ro_isFull s) := by
  show sv_V E m_Ro_isFull (d + 0) (ss_pi s) 0 [(0, sv_r E 65)] [] (ss_e s) _
  unfold F_Ro_isFull
  refine sv_aload_n (pc := 0) 0 (sv_d k_Ro_isFull 0 rfl) rfl rfl ?_
  refine sv_getf (pc := 1) 4 (sv_d k_Ro_isFull 1 rfl) cf7 (by decide) w135 kd65 (ss_lt (by decide)) rfl ?_
  refine sv_bipush (pc := 4) (v := (40 : Int32)) (sv_d k_Ro_isFull 2 rfl) (by decide) ?_
  refine sv_icmp_lt (pc := 6) (tgt := 13) (sv_d k_Ro_isFull 3 rfl) (by decide) ?_ ?_
  · refine sv_iconst (pc := 13) (v := (0 : Int32)) (sv_d k_Ro_isFull 6 rfl) (by decide) ?_
    exact sv_ret (pc := 14) (sv_d k_Ro_isFull 7 rfl) ⟨_, rfl, rfl⟩ rfl
  · refine sv_iconst (pc := 9) (v := (1 : Int32)) (sv_d k_Ro_isFull 4 rfl) (by decide) ?_
    refine sv_goto (pc := 10) (tgt := 14) (sv_d k_Ro_isFull 5 rfl) (by decide) ?_
    exact sv_ret (pc := 14) (sv_d k_Ro_isFull 7 rfl) ⟨_, rfl, rfl⟩ rfl
/-! Ro_shorten -/
abbrev m_Ro_shorten : sv_M := (yX7_shorten, cX7_shorten, 9, none)
def t_Ro_shorten : List (Nat × Instr × Nat) := [(0, .iconst 0, 1), (1, .istore 4, 2), (3, .iload 4, 2), (5, .bipush 16, 2), (7, .if_icmp .ge 105, 3), (10, .iconst 0, 1), (11, .istore 5, 2), (13, .iload 5, 2), (15, .bipush 16, 2), (17, .if_icmp .ge 89, 3), (20, .aload_n 0, 1), (21, .iload 4, 2), (23, .bipush 16, 2), (25, .imul, 1), (26, .iload_n 1, 1), (27, .iadd, 1), (28, .iaload, 1), (29, .aload_n 0, 1), (30, .iload_n 2, 1), (31, .bipush 16, 2), (33, .imul, 1), (34, .iload 5, 2), (36, .iadd, 1), (37, .iaload, 1), (38, .iadd, 1), (39, .istore 6, 2), (41, .aload_n 0, 1), (42, .iload 4, 2), (44, .bipush 16, 2), (46, .imul, 1), (47, .iload_n 2, 1), (48, .iadd, 1), (49, .iaload, 1), (50, .aload_n 0, 1), (51, .iload_n 1, 1), (52, .bipush 16, 2), (54, .imul, 1), (55, .iload 5, 2), (57, .iadd, 1), (58, .iaload, 1), (59, .iadd, 1), (60, .istore 7, 2), (62, .iload 6, 2), (64, .iload 7, 2), (66, .invokestatic 41, 3), (69, .iload_n 3, 1), (70, .iadd, 1), (71, .istore 8, 2), (73, .iload 8, 2), (75, .aload_n 0, 1), (76, .iload 4, 2), (78, .bipush 16, 2), (80, .imul, 1), (81, .iload 5, 2), (83, .iadd, 1), (84, .iaload, 1), (85, .if_icmp .ge 15, 3), (88, .aload_n 0, 1), (89, .iload 4, 2), (91, .bipush 16, 2), (93, .imul, 1), (94, .iload 5, 2), (96, .iadd, 1), (97, .iload 8, 2), (99, .iastore, 1), (100, .iinc 5 1, 3), (103, .goto (-90), 3), (106, .iinc 4 1, 3), (109, .goto (-106), 3), (112, .return_, 1)]
theorem k_Ro_shorten : sv_tk m_Ro_shorten.2.1 t_Ro_shorten := by decide +kernel
theorem g_Ro_shorten : sv_G m_Ro_shorten 4 := ⟨by decide +kernel, sv_in 577 (by decide +kernel) rfl, sv_in 91 (by decide +kernel) rfl, ⟨by decide, by decide⟩, by decide +kernel, by decide⟩
theorem st_Ro_shorten : Cond.static m_Ro_shorten.1 ∈ sv_T := sv_in 576 (by decide +kernel) rfl
def F_Ro_shorten_b100 (kc3 : Nat → Int32 → Int32 → Int32 → Int32 → sv_S → Option (sv_S)) (kc13 : Nat → Int32 → Int32 → Int32 → Int32 → Int32 → sv_S → Option (sv_S)) (a0 : Nat) (x1 : Int32) (x2 : Int32) (x3 : Int32) (x4 : Int32) (x5 : Int32) (s : sv_S) : Option (sv_S) :=
  ss_let (x5 + (1 : Int32)) fun v6 =>
  kc13 a0 x1 x2 x3 x4 v6 s
theorem V_Ro_shorten_b100 (E : sv_E) (d : Nat) (kc3 : Nat → Int32 → Int32 → Int32 → Int32 → sv_S → Option (sv_S)) (kc13 : Nat → Int32 → Int32 → Int32 → Int32 → Int32 → sv_S → Option (sv_S)) (hc3 : ∀ (a0 : Nat) (x1 : Int32) (x2 : Int32) (x3 : Int32) (x4 : Int32) (s : sv_S) (h_a0 : ss_K a0 = 20) (o_a0 : 64 ≤ a0) (l_a0 : a0 < 243 + s.2.2.2.2.1), sv_V E m_Ro_shorten (d + 1) ss_v 3 [(0, sv_r E a0), (1, .int x1), (2, .int x2), (3, .int x3), (4, .int x4)] [] (ss_e s) (kc3 a0 x1 x2 x3 x4 s)) (hc13 : ∀ (a0 : Nat) (x1 : Int32) (x2 : Int32) (x3 : Int32) (x4 : Int32) (x5 : Int32) (s : sv_S) (h_a0 : ss_K a0 = 20) (o_a0 : 64 ≤ a0) (l_a0 : a0 < 243 + s.2.2.2.2.1), sv_V E m_Ro_shorten (d + 1) ss_v 13 [(0, sv_r E a0), (1, .int x1), (2, .int x2), (3, .int x3), (4, .int x4), (5, .int x5)] [] (ss_e s) (kc13 a0 x1 x2 x3 x4 x5 s)) (a0 : Nat) (x1 : Int32) (x2 : Int32) (x3 : Int32) (x4 : Int32) (x5 : Int32) (s : sv_S) (h_a0 : ss_K a0 = 20) (o_a0 : 64 ≤ a0) (l_a0 : a0 < 243 + s.2.2.2.2.1) : sv_V E m_Ro_shorten (d + 1) ss_v 100 [(0, sv_r E a0), (1, .int x1), (2, .int x2), (3, .int x3), (4, .int x4), (5, .int x5)] [] (ss_e s) (F_Ro_shorten_b100 kc3 kc13 a0 x1 x2 x3 x4 x5 s) := by
  unfold F_Ro_shorten_b100
  refine ss_letr (fun v6 e_v6 => ?_)
  refine sv_iinc (pc := 100) (v := v6) (lv' := [(5, .int v6), (0, sv_r E a0), (1, .int x1), (2, .int x2), (3, .int x3), (4, .int x4)]) (sv_d k_Ro_shorten 65 rfl) (n := 5) rfl (by rw [e_v6]; rfl) (by decide) rfl ?_
  refine sv_goto (pc := 103) (tgt := 13) (sv_d k_Ro_shorten 66 rfl) (by decide) ?_
  exact sv_loc [1, 2, 3, 4, 5, 0] rfl (hc13 a0 x1 x2 x3 x4 v6 s h_a0 o_a0 l_a0)
def F_Ro_shorten_b13 (kc3 : Nat → Int32 → Int32 → Int32 → Int32 → sv_S → Option (sv_S)) : Nat → Nat → Int32 → Int32 → Int32 → Int32 → Int32 → sv_S → Option (sv_S)
  | 0 => fun _ _ _ _ _ _ _ => none
  | n + 1 => fun a0 x1 x2 x3 x4 x5 s =>
    if (16 : Int32) ≤ x5 then
      ss_let (x4 + (1 : Int32)) fun v1 =>
      kc3 a0 x1 x2 x3 v1 s
    else
    if sv_ib ((x4 * (16 : Int32)) + x1) (ss_N s.2.2.2.1 a0) = true then
      if sv_ib ((x2 * (16 : Int32)) + x5) (ss_N s.2.2.2.1 a0) = true then
        ss_let ((s.1 a0 ((x4 * (16 : Int32)) + x1).toNatClampNeg) + (s.1 a0 ((x2 * (16 : Int32)) + x5).toNatClampNeg)) fun v2 =>
        if sv_ib ((x4 * (16 : Int32)) + x2) (ss_N s.2.2.2.1 a0) = true then
          if sv_ib ((x1 * (16 : Int32)) + x5) (ss_N s.2.2.2.1 a0) = true then
            ss_let ((s.1 a0 ((x4 * (16 : Int32)) + x2).toNatClampNeg) + (s.1 a0 ((x1 * (16 : Int32)) + x5).toNatClampNeg)) fun v3 =>
            (F_JM_min v2 v3 s).bind fun r4 =>
            ss_let (r4 + x3) fun v5 =>
            if sv_ib ((x4 * (16 : Int32)) + x5) (ss_N s.2.2.2.1 a0) = true then
              if (s.1 a0 ((x4 * (16 : Int32)) + x5).toNatClampNeg) ≤ v5 then
                F_Ro_shorten_b100 kc3 (F_Ro_shorten_b13 kc3 n) a0 x1 x2 x3 x4 x5 s
              else
              if sv_ib ((x4 * (16 : Int32)) + x5) (ss_N s.2.2.2.1 a0) = true then
                ss_let (ss_setI s a0 ((x4 * (16 : Int32)) + x5).toNatClampNeg v5) fun s7 =>
                F_Ro_shorten_b100 kc3 (F_Ro_shorten_b13 kc3 n) a0 x1 x2 x3 x4 x5 s7
              else none
            else none
          else none
        else none
      else none
    else none
theorem V_Ro_shorten_b13 (E : sv_E) (d : Nat) (kc3 : Nat → Int32 → Int32 → Int32 → Int32 → sv_S → Option (sv_S)) (hc3 : ∀ (a0 : Nat) (x1 : Int32) (x2 : Int32) (x3 : Int32) (x4 : Int32) (s : sv_S) (h_a0 : ss_K a0 = 20) (o_a0 : 64 ≤ a0) (l_a0 : a0 < 243 + s.2.2.2.2.1), sv_V E m_Ro_shorten (d + 1) ss_v 3 [(0, sv_r E a0), (1, .int x1), (2, .int x2), (3, .int x3), (4, .int x4)] [] (ss_e s) (kc3 a0 x1 x2 x3 x4 s)) : ∀ (n : Nat) (a0 : Nat) (x1 : Int32) (x2 : Int32) (x3 : Int32) (x4 : Int32) (x5 : Int32) (s : sv_S) (h_a0 : ss_K a0 = 20) (o_a0 : 64 ≤ a0) (l_a0 : a0 < 243 + s.2.2.2.2.1), sv_V E m_Ro_shorten (d + 1) ss_v 13 [(0, sv_r E a0), (1, .int x1), (2, .int x2), (3, .int x3), (4, .int x4), (5, .int x5)] [] (ss_e s) (F_Ro_shorten_b13 kc3 n a0 x1 x2 x3 x4 x5 s) := by
  intro n
  induction n with
  | zero => intro a0 x1 x2 x3 x4 x5 s h_a0 o_a0 l_a0; exact sv_none
  | succ n ih =>
    intro a0 x1 x2 x3 x4 x5 s h_a0 o_a0 l_a0
    unfold F_Ro_shorten_b13
    refine sv_iload (pc := 13) 5 (sv_d k_Ro_shorten 7 rfl) rfl ?_
    refine sv_bipush (pc := 15) (v := (16 : Int32)) (sv_d k_Ro_shorten 8 rfl) (by decide) ?_
    refine sv_icmp_ge (pc := 17) (tgt := 106) (sv_d k_Ro_shorten 9 rfl) (by decide) ?_ ?_
    · refine ss_letr (fun v1 e_v1 => ?_)
      refine sv_iinc (pc := 106) (v := v1) (lv' := [(4, .int v1), (0, sv_r E a0), (1, .int x1), (2, .int x2), (3, .int x3), (5, .int x5)]) (sv_d k_Ro_shorten 67 rfl) (n := 4) rfl (by rw [e_v1]; rfl) (by decide) rfl ?_
      refine sv_goto (pc := 109) (tgt := 3) (sv_d k_Ro_shorten 68 rfl) (by decide) ?_
      exact sv_loc [1, 2, 3, 4, 0] rfl (hc3 a0 x1 x2 x3 v1 s h_a0 o_a0 l_a0)
    · refine sv_aload_n (pc := 20) 0 (sv_d k_Ro_shorten 10 rfl) rfl rfl ?_
      refine sv_iload (pc := 21) 4 (sv_d k_Ro_shorten 11 rfl) rfl ?_
      refine sv_bipush (pc := 23) (v := (16 : Int32)) (sv_d k_Ro_shorten 12 rfl) (by decide) ?_
      refine sv_imul (pc := 25) (sv_d k_Ro_shorten 13 rfl) ?_
      refine sv_iload_n (pc := 26) 1 (sv_d k_Ro_shorten 14 rfl) rfl rfl ?_
      refine sv_iadd (pc := 27) (sv_d k_Ro_shorten 15 rfl) ?_
      refine ss_iald (pc := 28) (n := (ss_N s.2.2.2.1 a0)) (sv_d k_Ro_shorten 16 rfl) h_a0 l_a0 rfl ?_
      refine sv_aload_n (pc := 29) 0 (sv_d k_Ro_shorten 17 rfl) rfl rfl ?_
      refine sv_iload_n (pc := 30) 2 (sv_d k_Ro_shorten 18 rfl) rfl rfl ?_
      refine sv_bipush (pc := 31) (v := (16 : Int32)) (sv_d k_Ro_shorten 19 rfl) (by decide) ?_
      refine sv_imul (pc := 33) (sv_d k_Ro_shorten 20 rfl) ?_
      refine sv_iload (pc := 34) 5 (sv_d k_Ro_shorten 21 rfl) rfl ?_
      refine sv_iadd (pc := 36) (sv_d k_Ro_shorten 22 rfl) ?_
      refine ss_iald (pc := 37) (n := (ss_N s.2.2.2.1 a0)) (sv_d k_Ro_shorten 23 rfl) h_a0 l_a0 rfl ?_
      refine sv_iadd (pc := 38) (sv_d k_Ro_shorten 24 rfl) ?_
      refine ss_top (fun v2 e_v2 => ?_)
      refine sv_istore (pc := 39) (lv' := [(6, .int v2), (0, sv_r E a0), (1, .int x1), (2, .int x2), (3, .int x3), (4, .int x4), (5, .int x5)]) (sv_d k_Ro_shorten 25 rfl) (by decide) rfl ?_
      refine sv_aload_n (pc := 41) 1 (sv_d k_Ro_shorten 26 rfl) rfl rfl ?_
      refine sv_iload (pc := 42) 5 (sv_d k_Ro_shorten 27 rfl) rfl ?_
      refine sv_bipush (pc := 44) (v := (16 : Int32)) (sv_d k_Ro_shorten 28 rfl) (by decide) ?_
      refine sv_imul (pc := 46) (sv_d k_Ro_shorten 29 rfl) ?_
      refine sv_iload_n (pc := 47) 3 (sv_d k_Ro_shorten 30 rfl) rfl rfl ?_
      refine sv_iadd (pc := 48) (sv_d k_Ro_shorten 31 rfl) ?_
      refine ss_iald (pc := 49) (n := (ss_N s.2.2.2.1 a0)) (sv_d k_Ro_shorten 32 rfl) h_a0 l_a0 rfl ?_
      refine sv_aload_n (pc := 50) 1 (sv_d k_Ro_shorten 33 rfl) rfl rfl ?_
      refine sv_iload_n (pc := 51) 2 (sv_d k_Ro_shorten 34 rfl) rfl rfl ?_
      refine sv_bipush (pc := 52) (v := (16 : Int32)) (sv_d k_Ro_shorten 35 rfl) (by decide) ?_
      refine sv_imul (pc := 54) (sv_d k_Ro_shorten 36 rfl) ?_
      refine sv_iload (pc := 55) 6 (sv_d k_Ro_shorten 37 rfl) rfl ?_
      refine sv_iadd (pc := 57) (sv_d k_Ro_shorten 38 rfl) ?_
      refine ss_iald (pc := 58) (n := (ss_N s.2.2.2.1 a0)) (sv_d k_Ro_shorten 39 rfl) h_a0 l_a0 rfl ?_
      refine sv_iadd (pc := 59) (sv_d k_Ro_shorten 40 rfl) ?_
      refine ss_top (fun v3 e_v3 => ?_)
      refine sv_istore (pc := 60) (lv' := [(7, .int v3), (6, .int v2), (0, sv_r E a0), (1, .int x1), (2, .int x2), (3, .int x3), (4, .int x4), (5, .int x5)]) (sv_d k_Ro_shorten 41 rfl) (by decide) rfl ?_
      refine sv_iload (pc := 62) 1 (sv_d k_Ro_shorten 42 rfl) rfl ?_
      refine sv_iload (pc := 64) 0 (sv_d k_Ro_shorten 43 rfl) rfl ?_
      refine sv_callS (pc := 66) (ψ := (ss_pi s)) (As := [.int v2, .int v3]) (rest := []) (sv_d k_Ro_shorten 44 rfl) g_JM_min w578 st_JM_min rfl (Nat.le_of_ble_eq_true rfl) (V_JM_min E (d + 0) v2 v3 s) (Nat.le_of_ble_eq_true rfl) rfl (fun r4 => ?_)
      show sv_V E _ _ _ 69 _ [.int r4] (ss_e s) _
      refine sv_iload_n (pc := 69) 5 (sv_d k_Ro_shorten 45 rfl) rfl rfl ?_
      refine sv_iadd (pc := 70) (sv_d k_Ro_shorten 46 rfl) ?_
      refine ss_top (fun v5 e_v5 => ?_)
      refine sv_istore (pc := 71) (lv' := [(8, .int v5), (7, .int v3), (6, .int v2), (0, sv_r E a0), (1, .int x1), (2, .int x2), (3, .int x3), (4, .int x4), (5, .int x5)]) (sv_d k_Ro_shorten 47 rfl) (by decide) rfl ?_
      refine sv_iload (pc := 73) 0 (sv_d k_Ro_shorten 48 rfl) rfl ?_
      refine sv_aload_n (pc := 75) 3 (sv_d k_Ro_shorten 49 rfl) rfl rfl ?_
      refine sv_iload (pc := 76) 7 (sv_d k_Ro_shorten 50 rfl) rfl ?_
      refine sv_bipush (pc := 78) (v := (16 : Int32)) (sv_d k_Ro_shorten 51 rfl) (by decide) ?_
      refine sv_imul (pc := 80) (sv_d k_Ro_shorten 52 rfl) ?_
      refine sv_iload (pc := 81) 8 (sv_d k_Ro_shorten 53 rfl) rfl ?_
      refine sv_iadd (pc := 83) (sv_d k_Ro_shorten 54 rfl) ?_
      refine ss_iald (pc := 84) (n := (ss_N s.2.2.2.1 a0)) (sv_d k_Ro_shorten 55 rfl) h_a0 l_a0 rfl ?_
      refine sv_icmp_ge (pc := 85) (tgt := 100) (sv_d k_Ro_shorten 56 rfl) (by decide) ?_ ?_
      · exact sv_loc [3, 4, 5, 6, 7, 8] rfl (V_Ro_shorten_b100 E d kc3 (F_Ro_shorten_b13 kc3 n) hc3 ih a0 x1 x2 x3 x4 x5 s h_a0 o_a0 l_a0)
      · refine sv_aload_n (pc := 88) 3 (sv_d k_Ro_shorten 57 rfl) rfl rfl ?_
        refine sv_iload (pc := 89) 7 (sv_d k_Ro_shorten 58 rfl) rfl ?_
        refine sv_bipush (pc := 91) (v := (16 : Int32)) (sv_d k_Ro_shorten 59 rfl) (by decide) ?_
        refine sv_imul (pc := 93) (sv_d k_Ro_shorten 60 rfl) ?_
        refine sv_iload (pc := 94) 8 (sv_d k_Ro_shorten 61 rfl) rfl ?_
        refine sv_iadd (pc := 96) (sv_d k_Ro_shorten 62 rfl) ?_
        refine sv_iload (pc := 97) 0 (sv_d k_Ro_shorten 63 rfl) rfl ?_
        refine ss_iast (pc := 99) (n := (ss_N s.2.2.2.1 a0)) (sv_d k_Ro_shorten 64 rfl) h_a0 o_a0 l_a0 rfl (ss_lets (fun s7 e_s7 => ?_))
        have l_a0 : a0 < 243 + s7.2.2.2.2.1 := by rw [e_s7]; exact l_a0
        exact sv_loc [3, 4, 5, 6, 7, 8] rfl (V_Ro_shorten_b100 E d kc3 (F_Ro_shorten_b13 kc3 n) hc3 ih a0 x1 x2 x3 x4 x5 s7 h_a0 o_a0 l_a0)
def F_Ro_shorten_b3 : Nat → Nat → Int32 → Int32 → Int32 → Int32 → sv_S → Option (sv_S)
  | 0 => fun _ _ _ _ _ _ => none
  | n + 1 => fun a0 x1 x2 x3 x4 s =>
    if (16 : Int32) ≤ x4 then
      some s
    else
    F_Ro_shorten_b13 (F_Ro_shorten_b3  n) ss_F a0 x1 x2 x3 x4 (0 : Int32) s
theorem V_Ro_shorten_b3 (E : sv_E) (d : Nat) : ∀ (n : Nat) (a0 : Nat) (x1 : Int32) (x2 : Int32) (x3 : Int32) (x4 : Int32) (s : sv_S) (h_a0 : ss_K a0 = 20) (o_a0 : 64 ≤ a0) (l_a0 : a0 < 243 + s.2.2.2.2.1), sv_V E m_Ro_shorten (d + 1) ss_v 3 [(0, sv_r E a0), (1, .int x1), (2, .int x2), (3, .int x3), (4, .int x4)] [] (ss_e s) (F_Ro_shorten_b3 n a0 x1 x2 x3 x4 s) := by
  intro n
  induction n with
  | zero => intro a0 x1 x2 x3 x4 s h_a0 o_a0 l_a0; exact sv_none
  | succ n ih =>
    intro a0 x1 x2 x3 x4 s h_a0 o_a0 l_a0
    unfold F_Ro_shorten_b3
    refine sv_iload (pc := 3) 4 (sv_d k_Ro_shorten 2 rfl) rfl ?_
    refine sv_bipush (pc := 5) (v := (16 : Int32)) (sv_d k_Ro_shorten 3 rfl) (by decide) ?_
    refine sv_icmp_ge (pc := 7) (tgt := 112) (sv_d k_Ro_shorten 4 rfl) (by decide) ?_ ?_
    · exact sv_retv (pc := 112) (sv_d k_Ro_shorten 69 rfl) rfl rfl
    · refine sv_iconst (pc := 10) (v := (0 : Int32)) (sv_d k_Ro_shorten 5 rfl) (by decide) ?_
      refine sv_istore (pc := 11) (lv' := [(5, .int (0 : Int32)), (0, sv_r E a0), (1, .int x1), (2, .int x2), (3, .int x3), (4, .int x4)]) (sv_d k_Ro_shorten 6 rfl) (by decide) rfl ?_
      exact sv_loc [1, 2, 3, 4, 5, 0] rfl (V_Ro_shorten_b13 E d (F_Ro_shorten_b3  n) ih ss_F a0 x1 x2 x3 x4 (0 : Int32) s h_a0 o_a0 l_a0)
def F_Ro_shorten (a0 : Nat) (x1 : Int32) (x2 : Int32) (x3 : Int32) (s : sv_S) : Option (sv_S) :=
  F_Ro_shorten_b3 ss_F a0 x1 x2 x3 (0 : Int32) s
theorem V_Ro_shorten (E : sv_E) (d : Nat) (a0 : Nat) (x1 : Int32) (x2 : Int32) (x3 : Int32) (s : sv_S) (h_a0 : ss_K a0 = 20) (o_a0 : 64 ≤ a0) (l_a0 : a0 < 243 + s.2.2.2.2.1) : sv_V E m_Ro_shorten (d + 1) ss_v 0 (lv_args 0 [sv_r E a0, .int x1, .int x2, .int x3]) [] (ss_e s) (F_Ro_shorten a0 x1 x2 x3 s) := by
  show sv_V E m_Ro_shorten (d + 1) ss_v 0 [(0, sv_r E a0), (1, .int x1), (2, .int x2), (3, .int x3)] [] (ss_e s) _
  unfold F_Ro_shorten
  refine sv_iconst (pc := 0) (v := (0 : Int32)) (sv_d k_Ro_shorten 0 rfl) (by decide) ?_
  refine sv_istore (pc := 1) (lv' := [(4, .int (0 : Int32)), (0, sv_r E a0), (1, .int x1), (2, .int x2), (3, .int x3)]) (sv_d k_Ro_shorten 1 rfl) (by decide) rfl ?_
  exact sv_loc [1, 2, 3, 4, 0] rfl (V_Ro_shorten_b3 E d ss_F a0 x1 x2 x3 (0 : Int32) s h_a0 o_a0 l_a0)
/-! Ro_add -/
abbrev m_Ro_add : sv_M := (yX7_add, cX7_add, 6, (some .int))
def t_Ro_add : List (Nat × Instr × Nat) := [(0, .aload_n 0, 1), (1, .getfield 11, 3), (4, .aload_n 0, 1), (5, .getfield 33, 3), (8, .iload_n 1, 1), (9, .iastore, 1), (10, .aload_n 0, 1), (11, .getfield 15, 3), (14, .aload_n 0, 1), (15, .getfield 33, 3), (18, .iload 4, 2), (20, .iastore, 1), (21, .aload_n 0, 1), (22, .getfield 18, 3), (25, .iload_n 2, 1), (26, .bipush 16, 2), (28, .imul, 1), (29, .iload_n 3, 1), (30, .iadd, 1), (31, .iaload, 1), (32, .istore 5, 2), (34, .iload 5, 2), (36, .ifCond .lt 15, 3), (39, .iload 4, 2), (41, .aload_n 0, 1), (42, .getfield 15, 3), (45, .iload 5, 2), (47, .iaload, 1), (48, .if_icmp .ge 33, 3), (51, .aload_n 0, 1), (52, .getfield 18, 3), (55, .iload_n 2, 1), (56, .bipush 16, 2), (58, .imul, 1), (59, .iload_n 3, 1), (60, .iadd, 1), (61, .aload_n 0, 1), (62, .getfield 33, 3), (65, .iastore, 1), (66, .aload_n 0, 1), (67, .getfield 18, 3), (70, .iload_n 3, 1), (71, .bipush 16, 2), (73, .imul, 1), (74, .iload_n 2, 1), (75, .iadd, 1), (76, .aload_n 0, 1), (77, .getfield 33, 3), (80, .iastore, 1), (81, .aload_n 0, 1), (82, .getfield 23, 3), (85, .iload_n 1, 1), (86, .aaload, 1), (87, .iload_n 2, 1), (88, .iload_n 3, 1), (89, .iload 4, 2), (91, .invokestatic 37, 3), (94, .aload_n 0, 1), (95, .getfield 23, 3), (98, .bipush 6, 2), (100, .aaload, 1), (101, .iload_n 2, 1), (102, .iload_n 3, 1), (103, .iload 4, 2), (105, .invokestatic 37, 3), (108, .aload_n 0, 1), (109, .dup, 1), (110, .getfield 33, 3), (113, .dup_x1, 1), (114, .iconst 1, 1), (115, .iadd, 1), (116, .putfield 33, 3), (119, .ireturn, 1)]
theorem k_Ro_add : sv_tk m_Ro_add.2.1 t_Ro_add := by decide +kernel
theorem g_Ro_add : sv_G m_Ro_add 4 := ⟨by decide +kernel, sv_in 574 (by decide +kernel) rfl, sv_in 91 (by decide +kernel) rfl, ⟨by decide, by decide⟩, by decide +kernel, by decide⟩
theorem in_Ro_add : Cond.instanceMethod m_Ro_add.1 ∈ sv_T := sv_in 572 (by decide +kernel) rfl
theorem se_Ro_add : Cond.selects m_Ro_add.1.cls m_Ro_add.1 m_Ro_add.1 ∈ sv_T := sv_in 573 (by decide +kernel) rfl
def F_Ro_add_b81 (x1 : Int32) (x2 : Int32) (x3 : Int32) (x4 : Int32) (s : sv_S) : Option (Int32 × sv_S) :=
  if sv_ib x1 7 = true then
    (F_Ro_shorten (70 + x1.toNatClampNeg) x2 x3 x4 s).bind fun r7 =>
    if sv_ib (6 : Int32) 7 = true then
      (F_Ro_shorten (70 + (6 : Int32).toNatClampNeg) x2 x3 x4 r7).bind fun r9 =>
      ss_let (ss_setI r9 65 4 ((r9.1 65 4) + (1 : Int32))) fun s10 =>
      some (r9.1 65 4, s10)
    else none
  else none
theorem V_Ro_add_b81 (E : sv_E) (d : Nat) (x1 : Int32) (x2 : Int32) (x3 : Int32) (x4 : Int32) (s : sv_S) : sv_V E m_Ro_add (d + 2) ss_i 81 [(0, sv_r E 65), (1, .int x1), (2, .int x2), (3, .int x3), (4, .int x4)] [] (ss_e s) (F_Ro_add_b81 x1 x2 x3 x4 s) := by
  unfold F_Ro_add_b81
  refine sv_aload_n (pc := 81) 0 (sv_d k_Ro_add 49 rfl) rfl rfl ?_
  refine sv_getf (pc := 82) 3 (sv_d k_Ro_add 50 rfl) cf7 (by decide) w134 kd65 (ss_lt (by decide)) (lr_65_3 E _) ?_
  refine sv_iload_n (pc := 85) 1 (sv_d k_Ro_add 51 rfl) rfl rfl ?_
  refine ss_aaldT (pc := 86) (n := 7) (b := 70) (sv_d k_Ro_add 52 rfl) kd69 (by decide) (by decide) rfl (ss_lt (by decide)) rfl ss_row69 (by decide) (fun _ => rfl) (fun bb6 => ?_)
  refine sv_iload_n (pc := 87) 2 (sv_d k_Ro_add 53 rfl) rfl rfl ?_
  refine sv_iload_n (pc := 88) 3 (sv_d k_Ro_add 54 rfl) rfl rfl ?_
  refine sv_iload (pc := 89) 4 (sv_d k_Ro_add 55 rfl) rfl ?_
  refine sv_callS (pc := 91) (ψ := ss_v) (As := [sv_r E (70 + x1.toNatClampNeg), .int x2, .int x3, .int x4]) (rest := []) (sv_d k_Ro_add 56 rfl) g_Ro_shorten w575 st_Ro_shorten rfl (Nat.le_of_ble_eq_true rfl) (V_Ro_shorten E (d + 0) (70 + x1.toNatClampNeg) x2 x3 x4 s (ss_kr69 _ bb6) (Nat.le_trans (by decide : 64 ≤ 70) (Nat.le_add_right _ _)) (ss_ltr (by decide : 70 + 7 ≤ 243) bb6)) (Nat.le_of_ble_eq_true rfl) rfl (fun r7 => ?_)
  show sv_V E _ _ _ 94 _ [] (ss_e r7) _
  refine sv_aload_n (pc := 94) 0 (sv_d k_Ro_add 57 rfl) rfl rfl ?_
  refine sv_getf (pc := 95) 3 (sv_d k_Ro_add 58 rfl) cf7 (by decide) w134 kd65 (ss_lt (by decide)) (lr_65_3 E _) ?_
  refine sv_bipush (pc := 98) (v := (6 : Int32)) (sv_d k_Ro_add 59 rfl) (by decide) ?_
  refine ss_aaldT (pc := 100) (n := 7) (b := 70) (sv_d k_Ro_add 60 rfl) kd69 (by decide) (by decide) rfl (ss_lt (by decide)) rfl ss_row69 (by decide) (fun _ => rfl) (fun bb8 => ?_)
  refine sv_iload_n (pc := 101) 2 (sv_d k_Ro_add 61 rfl) rfl rfl ?_
  refine sv_iload_n (pc := 102) 3 (sv_d k_Ro_add 62 rfl) rfl rfl ?_
  refine sv_iload (pc := 103) 4 (sv_d k_Ro_add 63 rfl) rfl ?_
  refine sv_callS (pc := 105) (ψ := ss_v) (As := [sv_r E (70 + (6 : Int32).toNatClampNeg), .int x2, .int x3, .int x4]) (rest := []) (sv_d k_Ro_add 64 rfl) g_Ro_shorten w575 st_Ro_shorten rfl (Nat.le_of_ble_eq_true rfl) (V_Ro_shorten E (d + 0) (70 + (6 : Int32).toNatClampNeg) x2 x3 x4 r7 (ss_kr69 _ bb8) (Nat.le_trans (by decide : 64 ≤ 70) (Nat.le_add_right _ _)) (ss_ltr (by decide : 70 + 7 ≤ 243) bb8)) (Nat.le_of_ble_eq_true rfl) rfl (fun r9 => ?_)
  show sv_V E _ _ _ 108 _ [] (ss_e r9) _
  refine sv_aload_n (pc := 108) 0 (sv_d k_Ro_add 65 rfl) rfl rfl ?_
  refine sv_dup (pc := 109) (sv_d k_Ro_add 66 rfl) rfl ?_
  refine sv_getf (pc := 110) 4 (sv_d k_Ro_add 67 rfl) cf7 (by decide) w135 kd65 (ss_lt (by decide)) rfl ?_
  refine sv_dup_x1 (pc := 113) (sv_d k_Ro_add 68 rfl) rfl rfl ?_
  refine sv_iconst (pc := 114) (v := (1 : Int32)) (sv_d k_Ro_add 69 rfl) (by decide) ?_
  refine sv_iadd (pc := 115) (sv_d k_Ro_add 70 rfl) ?_
  refine ss_putI (pc := 116) 4 (sv_d k_Ro_add 71 rfl) cf7 (by decide) rfl w135 kd65 (ss_lt (by decide)) rfl rfl (fun _ => rfl) (ss_lets (fun s10 e_s10 => ?_))
  exact sv_ret (pc := 119) (sv_d k_Ro_add 72 rfl) ⟨_, rfl, rfl⟩ rfl
def F_Ro_add_b51 (x1 : Int32) (x2 : Int32) (x3 : Int32) (x4 : Int32) (s : sv_S) : Option (Int32 × sv_S) :=
  if sv_ib ((x2 * (16 : Int32)) + x3) 256 = true then
    ss_let (ss_setI s 68 ((x2 * (16 : Int32)) + x3).toNatClampNeg (s.1 65 4)) fun s4 =>
    if sv_ib ((x3 * (16 : Int32)) + x2) 256 = true then
      ss_let (ss_setI s4 68 ((x3 * (16 : Int32)) + x2).toNatClampNeg (s4.1 65 4)) fun s5 =>
      F_Ro_add_b81 x1 x2 x3 x4 s5
    else none
  else none
theorem V_Ro_add_b51 (E : sv_E) (d : Nat) (x1 : Int32) (x2 : Int32) (x3 : Int32) (x4 : Int32) (s : sv_S) : sv_V E m_Ro_add (d + 2) ss_i 51 [(0, sv_r E 65), (1, .int x1), (2, .int x2), (3, .int x3), (4, .int x4)] [] (ss_e s) (F_Ro_add_b51 x1 x2 x3 x4 s) := by
  unfold F_Ro_add_b51
  refine sv_aload_n (pc := 51) 0 (sv_d k_Ro_add 29 rfl) rfl rfl ?_
  refine sv_getf (pc := 52) 2 (sv_d k_Ro_add 30 rfl) cf7 (by decide) w133 kd65 (ss_lt (by decide)) (lr_65_2 E _) ?_
  refine sv_iload_n (pc := 55) 2 (sv_d k_Ro_add 31 rfl) rfl rfl ?_
  refine sv_bipush (pc := 56) (v := (16 : Int32)) (sv_d k_Ro_add 32 rfl) (by decide) ?_
  refine sv_imul (pc := 58) (sv_d k_Ro_add 33 rfl) ?_
  refine sv_iload_n (pc := 59) 3 (sv_d k_Ro_add 34 rfl) rfl rfl ?_
  refine sv_iadd (pc := 60) (sv_d k_Ro_add 35 rfl) ?_
  refine sv_aload_n (pc := 61) 0 (sv_d k_Ro_add 36 rfl) rfl rfl ?_
  refine sv_getf (pc := 62) 4 (sv_d k_Ro_add 37 rfl) cf7 (by decide) w135 kd65 (ss_lt (by decide)) rfl ?_
  refine ss_iast (pc := 65) (n := 256) (sv_d k_Ro_add 38 rfl) kd68 (by decide) (ss_lt (by decide)) rfl (ss_lets (fun s4 e_s4 => ?_))
  refine sv_aload_n (pc := 66) 0 (sv_d k_Ro_add 39 rfl) rfl rfl ?_
  refine sv_getf (pc := 67) 2 (sv_d k_Ro_add 40 rfl) cf7 (by decide) w133 kd65 (ss_lt (by decide)) (lr_65_2 E _) ?_
  refine sv_iload_n (pc := 70) 3 (sv_d k_Ro_add 41 rfl) rfl rfl ?_
  refine sv_bipush (pc := 71) (v := (16 : Int32)) (sv_d k_Ro_add 42 rfl) (by decide) ?_
  refine sv_imul (pc := 73) (sv_d k_Ro_add 43 rfl) ?_
  refine sv_iload_n (pc := 74) 2 (sv_d k_Ro_add 44 rfl) rfl rfl ?_
  refine sv_iadd (pc := 75) (sv_d k_Ro_add 45 rfl) ?_
  refine sv_aload_n (pc := 76) 0 (sv_d k_Ro_add 46 rfl) rfl rfl ?_
  refine sv_getf (pc := 77) 4 (sv_d k_Ro_add 47 rfl) cf7 (by decide) w135 kd65 (ss_lt (by decide)) rfl ?_
  refine ss_iast (pc := 80) (n := 256) (sv_d k_Ro_add 48 rfl) kd68 (by decide) (ss_lt (by decide)) rfl (ss_lets (fun s5 e_s5 => ?_))
  exact sv_loc [0, 1, 2, 3, 4] rfl (V_Ro_add_b81 E d x1 x2 x3 x4 s5)
def F_Ro_add (x1 : Int32) (x2 : Int32) (x3 : Int32) (x4 : Int32) (s : sv_S) : Option (Int32 × sv_S) :=
  if sv_ib (s.1 65 4) 40 = true then
    ss_let (ss_setI s 66 (s.1 65 4).toNatClampNeg x1) fun s1 =>
    if sv_ib (s1.1 65 4) 40 = true then
      ss_let (ss_setI s1 67 (s1.1 65 4).toNatClampNeg x4) fun s2 =>
      if sv_ib ((x2 * (16 : Int32)) + x3) 256 = true then
        ss_let (s2.1 68 ((x2 * (16 : Int32)) + x3).toNatClampNeg) fun v3 =>
        if v3 < 0 then
          F_Ro_add_b51 x1 x2 x3 x4 s2
        else
        if sv_ib v3 40 = true then
          if (s2.1 67 v3.toNatClampNeg) ≤ x4 then
            F_Ro_add_b81 x1 x2 x3 x4 s2
          else
          F_Ro_add_b51 x1 x2 x3 x4 s2
        else none
      else none
    else none
  else none
theorem V_Ro_add (E : sv_E) (d : Nat) (x1 : Int32) (x2 : Int32) (x3 : Int32) (x4 : Int32) (s : sv_S) : sv_V E m_Ro_add (d + 2) ss_i 0 (lv_args 0 [sv_r E 65, .int x1, .int x2, .int x3, .int x4]) [] (ss_e s) (F_Ro_add x1 x2 x3 x4 s) := by
  show sv_V E m_Ro_add (d + 2) ss_i 0 [(0, sv_r E 65), (1, .int x1), (2, .int x2), (3, .int x3), (4, .int x4)] [] (ss_e s) _
  unfold F_Ro_add
  refine sv_aload_n (pc := 0) 0 (sv_d k_Ro_add 0 rfl) rfl rfl ?_
  refine sv_getf (pc := 1) 0 (sv_d k_Ro_add 1 rfl) cf7 (by decide) w131 kd65 (ss_lt (by decide)) (lr_65_0 E _) ?_
  refine sv_aload_n (pc := 4) 0 (sv_d k_Ro_add 2 rfl) rfl rfl ?_
  refine sv_getf (pc := 5) 4 (sv_d k_Ro_add 3 rfl) cf7 (by decide) w135 kd65 (ss_lt (by decide)) rfl ?_
  refine sv_iload_n (pc := 8) 1 (sv_d k_Ro_add 4 rfl) rfl rfl ?_
  refine ss_iast (pc := 9) (n := 40) (sv_d k_Ro_add 5 rfl) kd66 (by decide) (ss_lt (by decide)) rfl (ss_lets (fun s1 e_s1 => ?_))
  refine sv_aload_n (pc := 10) 0 (sv_d k_Ro_add 6 rfl) rfl rfl ?_
  refine sv_getf (pc := 11) 1 (sv_d k_Ro_add 7 rfl) cf7 (by decide) w132 kd65 (ss_lt (by decide)) (lr_65_1 E _) ?_
  refine sv_aload_n (pc := 14) 0 (sv_d k_Ro_add 8 rfl) rfl rfl ?_
  refine sv_getf (pc := 15) 4 (sv_d k_Ro_add 9 rfl) cf7 (by decide) w135 kd65 (ss_lt (by decide)) rfl ?_
  refine sv_iload (pc := 18) 4 (sv_d k_Ro_add 10 rfl) rfl ?_
  refine ss_iast (pc := 20) (n := 40) (sv_d k_Ro_add 11 rfl) kd67 (by decide) (ss_lt (by decide)) rfl (ss_lets (fun s2 e_s2 => ?_))
  refine sv_aload_n (pc := 21) 0 (sv_d k_Ro_add 12 rfl) rfl rfl ?_
  refine sv_getf (pc := 22) 2 (sv_d k_Ro_add 13 rfl) cf7 (by decide) w133 kd65 (ss_lt (by decide)) (lr_65_2 E _) ?_
  refine sv_iload_n (pc := 25) 2 (sv_d k_Ro_add 14 rfl) rfl rfl ?_
  refine sv_bipush (pc := 26) (v := (16 : Int32)) (sv_d k_Ro_add 15 rfl) (by decide) ?_
  refine sv_imul (pc := 28) (sv_d k_Ro_add 16 rfl) ?_
  refine sv_iload_n (pc := 29) 3 (sv_d k_Ro_add 17 rfl) rfl rfl ?_
  refine sv_iadd (pc := 30) (sv_d k_Ro_add 18 rfl) ?_
  refine ss_iald (pc := 31) (n := 256) (sv_d k_Ro_add 19 rfl) kd68 (ss_lt (by decide)) rfl ?_
  refine ss_top (fun v3 e_v3 => ?_)
  refine sv_istore (pc := 32) (lv' := [(5, .int v3), (0, sv_r E 65), (1, .int x1), (2, .int x2), (3, .int x3), (4, .int x4)]) (sv_d k_Ro_add 20 rfl) (by decide) rfl ?_
  refine sv_iload (pc := 34) 0 (sv_d k_Ro_add 21 rfl) rfl ?_
  refine sv_if_lt (pc := 36) (tgt := 51) (sv_d k_Ro_add 22 rfl) (by decide) ?_ ?_
  · exact sv_loc [1, 2, 3, 4, 5] rfl (V_Ro_add_b51 E d x1 x2 x3 x4 s2)
  · refine sv_iload (pc := 39) 5 (sv_d k_Ro_add 23 rfl) rfl ?_
    refine sv_aload_n (pc := 41) 1 (sv_d k_Ro_add 24 rfl) rfl rfl ?_
    refine sv_getf (pc := 42) 1 (sv_d k_Ro_add 25 rfl) cf7 (by decide) w132 kd65 (ss_lt (by decide)) (lr_65_1 E _) ?_
    refine sv_iload (pc := 45) 0 (sv_d k_Ro_add 26 rfl) rfl ?_
    refine ss_iald (pc := 47) (n := 40) (sv_d k_Ro_add 27 rfl) kd67 (ss_lt (by decide)) rfl ?_
    refine sv_icmp_ge (pc := 48) (tgt := 81) (sv_d k_Ro_add 28 rfl) (by decide) ?_ ?_
    · exact sv_loc [1, 2, 3, 4, 5] rfl (V_Ro_add_b81 E d x1 x2 x3 x4 s2)
    · exact sv_loc [1, 2, 3, 4, 5] rfl (V_Ro_add_b51 E d x1 x2 x3 x4 s2)
/-! Ro_between -/
abbrev m_Ro_between : sv_M := (yX7_between, cX7_between, 5, (some .int))
def t_Ro_between : List (Nat × Instr × Nat) := [(0, .aload_n 0, 1), (1, .getfield 23, 3), (4, .iload_n 1, 1), (5, .iconst (-1), 1), (6, .if_icmp .ne 8, 3), (9, .bipush 6, 2), (11, .goto 4, 3), (14, .iload_n 1, 1), (15, .aaload, 1), (16, .iload_n 2, 1), (17, .bipush 16, 2), (19, .imul, 1), (20, .iload_n 3, 1), (21, .iadd, 1), (22, .iaload, 1), (23, .istore 4, 2), (25, .iload 4, 2), (27, .ldc 32, 2), (29, .if_icmp .lt 7, 3), (32, .iconst (-1), 1), (33, .goto 5, 3), (36, .iload 4, 2), (38, .ireturn, 1)]
theorem k_Ro_between : sv_tk m_Ro_between.2.1 t_Ro_between := by decide +kernel
theorem g_Ro_between : sv_G m_Ro_between 3 := ⟨by decide +kernel, sv_in 591 (by decide +kernel) rfl, sv_in 91 (by decide +kernel) rfl, ⟨by decide, by decide⟩, by decide +kernel, by decide⟩
theorem in_Ro_between : Cond.instanceMethod m_Ro_between.1 ∈ sv_T := sv_in 589 (by decide +kernel) rfl
theorem se_Ro_between : Cond.selects m_Ro_between.1.cls m_Ro_between.1 m_Ro_between.1 ∈ sv_T := sv_in 590 (by decide +kernel) rfl
def F_Ro_between_b15 (s : sv_S) (x2 : Int32) (x3 : Int32) (t1 : Int32) : Option (Int32) :=
  if sv_ib t1 7 = true then
    if sv_ib ((x2 * (16 : Int32)) + x3) (ss_N s.2.2.2.1 (70 + t1.toNatClampNeg)) = true then
      ss_let (s.1 (70 + t1.toNatClampNeg) ((x2 * (16 : Int32)) + x3).toNatClampNeg) fun v2 =>
      if v2 < (1000000 : Int32) then
        some v2
      else
      some (-1 : Int32)
    else none
  else none
theorem V_Ro_between_b15 (E : sv_E) (d : Nat) (s : sv_S) (x2 : Int32) (x3 : Int32) (t1 : Int32) : sv_V E m_Ro_between (d + 0) (ss_pi s) 15 [(2, .int x2), (3, .int x3)] [.int t1, sv_r E 69] (ss_e s) (F_Ro_between_b15 s x2 x3 t1) := by
  unfold F_Ro_between_b15
  refine ss_aaldT (pc := 15) (n := 7) (b := 70) (sv_d k_Ro_between 8 rfl) kd69 (by decide) (by decide) rfl (ss_lt (by decide)) rfl ss_row69 (by decide) (fun _ => rfl) (fun bb1 => ?_)
  refine sv_iload_n (pc := 16) 0 (sv_d k_Ro_between 9 rfl) rfl rfl ?_
  refine sv_bipush (pc := 17) (v := (16 : Int32)) (sv_d k_Ro_between 10 rfl) (by decide) ?_
  refine sv_imul (pc := 19) (sv_d k_Ro_between 11 rfl) ?_
  refine sv_iload_n (pc := 20) 1 (sv_d k_Ro_between 12 rfl) rfl rfl ?_
  refine sv_iadd (pc := 21) (sv_d k_Ro_between 13 rfl) ?_
  refine ss_iald (pc := 22) (n := (ss_N s.2.2.2.1 (70 + t1.toNatClampNeg))) (sv_d k_Ro_between 14 rfl) (ss_kr69 _ bb1) (ss_ltr (by decide : 70 + 7 ≤ 243) bb1) rfl ?_
  refine ss_top (fun v2 e_v2 => ?_)
  refine sv_istore (pc := 23) (lv' := [(4, .int v2), (2, .int x2), (3, .int x3)]) (sv_d k_Ro_between 15 rfl) (by decide) rfl ?_
  refine sv_iload (pc := 25) 0 (sv_d k_Ro_between 16 rfl) rfl ?_
  refine sv_ldc (pc := 27) (v := (1000000 : Int32)) w130 (sv_d k_Ro_between 17 rfl) ?_
  refine sv_icmp_lt (pc := 29) (tgt := 36) (sv_d k_Ro_between 18 rfl) (by decide) ?_ ?_
  · refine sv_iload (pc := 36) 0 (sv_d k_Ro_between 21 rfl) rfl ?_
    exact sv_ret (pc := 38) (sv_d k_Ro_between 22 rfl) ⟨_, rfl, rfl⟩ rfl
  · refine sv_iconst (pc := 32) (v := (-1 : Int32)) (sv_d k_Ro_between 19 rfl) (by decide) ?_
    refine sv_goto (pc := 33) (tgt := 38) (sv_d k_Ro_between 20 rfl) (by decide) ?_
    exact sv_ret (pc := 38) (sv_d k_Ro_between 22 rfl) ⟨_, rfl, rfl⟩ rfl
def F_Ro_between (x1 : Int32) (x2 : Int32) (x3 : Int32) (s : sv_S) : Option (Int32) :=
  if x1 = (-1 : Int32) then
    F_Ro_between_b15 s x2 x3 (6 : Int32)
  else
  F_Ro_between_b15 s x2 x3 x1
theorem V_Ro_between (E : sv_E) (d : Nat) (x1 : Int32) (x2 : Int32) (x3 : Int32) (s : sv_S) : sv_V E m_Ro_between (d + 0) (ss_pi s) 0 (lv_args 0 [sv_r E 65, .int x1, .int x2, .int x3]) [] (ss_e s) (F_Ro_between x1 x2 x3 s) := by
  show sv_V E m_Ro_between (d + 0) (ss_pi s) 0 [(0, sv_r E 65), (1, .int x1), (2, .int x2), (3, .int x3)] [] (ss_e s) _
  unfold F_Ro_between
  refine sv_aload_n (pc := 0) 0 (sv_d k_Ro_between 0 rfl) rfl rfl ?_
  refine sv_getf (pc := 1) 3 (sv_d k_Ro_between 1 rfl) cf7 (by decide) w134 kd65 (ss_lt (by decide)) (lr_65_3 E _) ?_
  refine sv_iload_n (pc := 4) 1 (sv_d k_Ro_between 2 rfl) rfl rfl ?_
  refine sv_iconst (pc := 5) (v := (-1 : Int32)) (sv_d k_Ro_between 3 rfl) (by decide) ?_
  refine sv_icmp_ne (pc := 6) (tgt := 14) (sv_d k_Ro_between 4 rfl) (by decide) ?_ ?_
  · refine sv_iload_n (pc := 14) 1 (sv_d k_Ro_between 7 rfl) rfl rfl ?_
    exact sv_loc [2, 3] rfl (V_Ro_between_b15 E d s x2 x3 x1)
  · refine sv_bipush (pc := 9) (v := (6 : Int32)) (sv_d k_Ro_between 5 rfl) (by decide) ?_
    refine sv_goto (pc := 11) (tgt := 15) (sv_d k_Ro_between 6 rfl) (by decide) ?_
    exact sv_loc [2, 3] rfl (V_Ro_between_b15 E d s x2 x3 (6 : Int32))
/-! Ro_nextOnWay -/
abbrev m_Ro_nextOnWay : sv_M := (yX7_nextOnWay, cX7_nextOnWay, 7, (some .int))
def t_Ro_nextOnWay : List (Nat × Instr × Nat) := [(0, .aload_n 0, 1), (1, .iconst (-1), 1), (2, .iload_n 1, 1), (3, .iload_n 2, 1), (4, .invokevirtual 47, 3), (7, .istore_n 3, 1), (8, .iconst 0, 1), (9, .istore 4, 2), (11, .iload 4, 2), (13, .bipush 16, 2), (15, .if_icmp .ge 60, 3), (18, .aload_n 0, 1), (19, .getfield 18, 3), (22, .iload_n 1, 1), (23, .bipush 16, 2), (25, .imul, 1), (26, .iload 4, 2), (28, .iadd, 1), (29, .iaload, 1), (30, .istore 5, 2), (32, .aload_n 0, 1), (33, .iconst (-1), 1), (34, .iload 4, 2), (36, .iload_n 2, 1), (37, .invokevirtual 47, 3), (40, .istore 6, 2), (42, .iload 5, 2), (44, .ifCond .lt 25, 3), (47, .iload 6, 2), (49, .ifCond .lt 20, 3), (52, .aload_n 0, 1), (53, .getfield 15, 3), (56, .iload 5, 2), (58, .iaload, 1), (59, .iload 6, 2), (61, .iadd, 1), (62, .iload_n 3, 1), (63, .if_icmp .ne 6, 3), (66, .iload 4, 2), (68, .ireturn, 1), (69, .iinc 4 1, 3), (72, .goto (-61), 3), (75, .iconst (-1), 1), (76, .ireturn, 1)]
theorem k_Ro_nextOnWay : sv_tk m_Ro_nextOnWay.2.1 t_Ro_nextOnWay := by decide +kernel
theorem g_Ro_nextOnWay : sv_G m_Ro_nextOnWay 2 := ⟨by decide +kernel, sv_in 603 (by decide +kernel) rfl, sv_in 91 (by decide +kernel) rfl, ⟨by decide, by decide⟩, by decide +kernel, by decide⟩
theorem in_Ro_nextOnWay : Cond.instanceMethod m_Ro_nextOnWay.1 ∈ sv_T := sv_in 602 (by decide +kernel) rfl
theorem se_Ro_nextOnWay : Cond.selects m_Ro_nextOnWay.1.cls m_Ro_nextOnWay.1 m_Ro_nextOnWay.1 ∈ sv_T := sv_in 0 (by decide +kernel) rfl
def F_Ro_nextOnWay_b69 (s : sv_S) (kc11 : Int32 → Int32 → Int32 → Int32 → Option (Int32)) (x1 : Int32) (x2 : Int32) (x3 : Int32) (x4 : Int32) : Option (Int32) :=
  ss_let (x4 + (1 : Int32)) fun v4 =>
  kc11 x1 x2 x3 v4
theorem V_Ro_nextOnWay_b69 (E : sv_E) (d : Nat) (s : sv_S) (kc11 : Int32 → Int32 → Int32 → Int32 → Option (Int32)) (hc11 : ∀ (x1 : Int32) (x2 : Int32) (x3 : Int32) (x4 : Int32), sv_V E m_Ro_nextOnWay (d + 1) (ss_pi s) 11 [(0, sv_r E 65), (1, .int x1), (2, .int x2), (3, .int x3), (4, .int x4)] [] (ss_e s) (kc11 x1 x2 x3 x4)) (x1 : Int32) (x2 : Int32) (x3 : Int32) (x4 : Int32) : sv_V E m_Ro_nextOnWay (d + 1) (ss_pi s) 69 [(0, sv_r E 65), (1, .int x1), (2, .int x2), (3, .int x3), (4, .int x4)] [] (ss_e s) (F_Ro_nextOnWay_b69 s kc11 x1 x2 x3 x4) := by
  unfold F_Ro_nextOnWay_b69
  refine ss_letr (fun v4 e_v4 => ?_)
  refine sv_iinc (pc := 69) (v := v4) (lv' := [(4, .int v4), (0, sv_r E 65), (1, .int x1), (2, .int x2), (3, .int x3)]) (sv_d k_Ro_nextOnWay 40 rfl) (n := 4) rfl (by rw [e_v4]; rfl) (by decide) rfl ?_
  refine sv_goto (pc := 72) (tgt := 11) (sv_d k_Ro_nextOnWay 41 rfl) (by decide) ?_
  exact sv_loc [1, 2, 3, 4, 0] rfl (hc11 x1 x2 x3 v4)
def F_Ro_nextOnWay_b11 (s : sv_S) : Nat → Int32 → Int32 → Int32 → Int32 → Option (Int32)
  | 0 => fun _ _ _ _ => none
  | n + 1 => fun x1 x2 x3 x4 =>
    if (16 : Int32) ≤ x4 then
      some (-1 : Int32)
    else
    if sv_ib ((x1 * (16 : Int32)) + x4) 256 = true then
      ss_let (s.1 68 ((x1 * (16 : Int32)) + x4).toNatClampNeg) fun v2 =>
      (F_Ro_between (-1 : Int32) x4 x2 s).bind fun r3 =>
      if v2 < 0 then
        F_Ro_nextOnWay_b69 s (F_Ro_nextOnWay_b11 s n) x1 x2 x3 x4
      else
      if r3 < 0 then
        F_Ro_nextOnWay_b69 s (F_Ro_nextOnWay_b11 s n) x1 x2 x3 x4
      else
      if sv_ib v2 40 = true then
        if ((s.1 67 v2.toNatClampNeg) + r3) = x3 then
          some x4
        else
        F_Ro_nextOnWay_b69 s (F_Ro_nextOnWay_b11 s n) x1 x2 x3 x4
      else none
    else none
theorem V_Ro_nextOnWay_b11 (E : sv_E) (d : Nat) (s : sv_S) : ∀ (n : Nat) (x1 : Int32) (x2 : Int32) (x3 : Int32) (x4 : Int32), sv_V E m_Ro_nextOnWay (d + 1) (ss_pi s) 11 [(0, sv_r E 65), (1, .int x1), (2, .int x2), (3, .int x3), (4, .int x4)] [] (ss_e s) (F_Ro_nextOnWay_b11 s n x1 x2 x3 x4) := by
  intro n
  induction n with
  | zero => intro x1 x2 x3 x4; exact sv_none
  | succ n ih =>
    intro x1 x2 x3 x4
    unfold F_Ro_nextOnWay_b11
    refine sv_iload (pc := 11) 4 (sv_d k_Ro_nextOnWay 8 rfl) rfl ?_
    refine sv_bipush (pc := 13) (v := (16 : Int32)) (sv_d k_Ro_nextOnWay 9 rfl) (by decide) ?_
    refine sv_icmp_ge (pc := 15) (tgt := 75) (sv_d k_Ro_nextOnWay 10 rfl) (by decide) ?_ ?_
    · refine sv_iconst (pc := 75) (v := (-1 : Int32)) (sv_d k_Ro_nextOnWay 42 rfl) (by decide) ?_
      exact sv_ret (pc := 76) (sv_d k_Ro_nextOnWay 43 rfl) ⟨_, rfl, rfl⟩ rfl
    · refine sv_aload_n (pc := 18) 0 (sv_d k_Ro_nextOnWay 11 rfl) rfl rfl ?_
      refine sv_getf (pc := 19) 2 (sv_d k_Ro_nextOnWay 12 rfl) cf7 (by decide) w133 kd65 (ss_lt (by decide)) (lr_65_2 E _) ?_
      refine sv_iload_n (pc := 22) 1 (sv_d k_Ro_nextOnWay 13 rfl) rfl rfl ?_
      refine sv_bipush (pc := 23) (v := (16 : Int32)) (sv_d k_Ro_nextOnWay 14 rfl) (by decide) ?_
      refine sv_imul (pc := 25) (sv_d k_Ro_nextOnWay 15 rfl) ?_
      refine sv_iload (pc := 26) 4 (sv_d k_Ro_nextOnWay 16 rfl) rfl ?_
      refine sv_iadd (pc := 28) (sv_d k_Ro_nextOnWay 17 rfl) ?_
      refine ss_iald (pc := 29) (n := 256) (sv_d k_Ro_nextOnWay 18 rfl) kd68 (ss_lt (by decide)) rfl ?_
      refine ss_top (fun v2 e_v2 => ?_)
      refine sv_istore (pc := 30) (lv' := [(5, .int v2), (0, sv_r E 65), (1, .int x1), (2, .int x2), (3, .int x3), (4, .int x4)]) (sv_d k_Ro_nextOnWay 19 rfl) (by decide) rfl ?_
      refine sv_aload_n (pc := 32) 1 (sv_d k_Ro_nextOnWay 20 rfl) rfl rfl ?_
      refine sv_iconst (pc := 33) (v := (-1 : Int32)) (sv_d k_Ro_nextOnWay 21 rfl) (by decide) ?_
      refine sv_iload (pc := 34) 5 (sv_d k_Ro_nextOnWay 22 rfl) rfl ?_
      refine sv_iload_n (pc := 36) 3 (sv_d k_Ro_nextOnWay 23 rfl) rfl rfl ?_
      refine sv_callV (pc := 37) (ψ := (ss_pi s)) (As := [.int (-1 : Int32), .int x4, .int x2]) (rest := []) (c := 65) (sv_d k_Ro_nextOnWay 24 rfl) g_Ro_between w604 in_Ro_between se_Ro_between cf7 kd65 (ss_lt (by decide)) rfl (Nat.le_of_ble_eq_true rfl) (V_Ro_between E (d + 0) (-1 : Int32) x4 x2 s) (Nat.le_of_ble_eq_true rfl) rfl (fun r3 => ?_)
      show sv_V E _ _ _ 40 _ [.int r3] (ss_e s) _
      refine sv_istore (pc := 40) (lv' := [(6, .int r3), (5, .int v2), (0, sv_r E 65), (1, .int x1), (2, .int x2), (3, .int x3), (4, .int x4)]) (sv_d k_Ro_nextOnWay 25 rfl) (by decide) rfl ?_
      refine sv_iload (pc := 42) 1 (sv_d k_Ro_nextOnWay 26 rfl) rfl ?_
      refine sv_if_lt (pc := 44) (tgt := 69) (sv_d k_Ro_nextOnWay 27 rfl) (by decide) ?_ ?_
      · exact sv_loc [2, 3, 4, 5, 6] rfl (V_Ro_nextOnWay_b69 E d s (F_Ro_nextOnWay_b11 s n) ih x1 x2 x3 x4)
      · refine sv_iload (pc := 47) 0 (sv_d k_Ro_nextOnWay 28 rfl) rfl ?_
        refine sv_if_lt (pc := 49) (tgt := 69) (sv_d k_Ro_nextOnWay 29 rfl) (by decide) ?_ ?_
        · exact sv_loc [2, 3, 4, 5, 6] rfl (V_Ro_nextOnWay_b69 E d s (F_Ro_nextOnWay_b11 s n) ih x1 x2 x3 x4)
        · refine sv_aload_n (pc := 52) 2 (sv_d k_Ro_nextOnWay 30 rfl) rfl rfl ?_
          refine sv_getf (pc := 53) 1 (sv_d k_Ro_nextOnWay 31 rfl) cf7 (by decide) w132 kd65 (ss_lt (by decide)) (lr_65_1 E _) ?_
          refine sv_iload (pc := 56) 1 (sv_d k_Ro_nextOnWay 32 rfl) rfl ?_
          refine ss_iald (pc := 58) (n := 40) (sv_d k_Ro_nextOnWay 33 rfl) kd67 (ss_lt (by decide)) rfl ?_
          refine sv_iload (pc := 59) 0 (sv_d k_Ro_nextOnWay 34 rfl) rfl ?_
          refine sv_iadd (pc := 61) (sv_d k_Ro_nextOnWay 35 rfl) ?_
          refine sv_iload_n (pc := 62) 5 (sv_d k_Ro_nextOnWay 36 rfl) rfl rfl ?_
          refine sv_icmp_ne (pc := 63) (tgt := 69) (sv_d k_Ro_nextOnWay 37 rfl) (by decide) ?_ ?_
          · exact sv_loc [2, 3, 4, 5, 6] rfl (V_Ro_nextOnWay_b69 E d s (F_Ro_nextOnWay_b11 s n) ih x1 x2 x3 x4)
          · refine sv_iload (pc := 66) 6 (sv_d k_Ro_nextOnWay 38 rfl) rfl ?_
            exact sv_ret (pc := 68) (sv_d k_Ro_nextOnWay 39 rfl) ⟨_, rfl, rfl⟩ rfl
def F_Ro_nextOnWay (x1 : Int32) (x2 : Int32) (s : sv_S) : Option (Int32) :=
  (F_Ro_between (-1 : Int32) x1 x2 s).bind fun r1 =>
  F_Ro_nextOnWay_b11 s ss_F x1 x2 r1 (0 : Int32)
theorem V_Ro_nextOnWay (E : sv_E) (d : Nat) (x1 : Int32) (x2 : Int32) (s : sv_S) : sv_V E m_Ro_nextOnWay (d + 1) (ss_pi s) 0 (lv_args 0 [sv_r E 65, .int x1, .int x2]) [] (ss_e s) (F_Ro_nextOnWay x1 x2 s) := by
  show sv_V E m_Ro_nextOnWay (d + 1) (ss_pi s) 0 [(0, sv_r E 65), (1, .int x1), (2, .int x2)] [] (ss_e s) _
  unfold F_Ro_nextOnWay
  refine sv_aload_n (pc := 0) 0 (sv_d k_Ro_nextOnWay 0 rfl) rfl rfl ?_
  refine sv_iconst (pc := 1) (v := (-1 : Int32)) (sv_d k_Ro_nextOnWay 1 rfl) (by decide) ?_
  refine sv_iload_n (pc := 2) 1 (sv_d k_Ro_nextOnWay 2 rfl) rfl rfl ?_
  refine sv_iload_n (pc := 3) 2 (sv_d k_Ro_nextOnWay 3 rfl) rfl rfl ?_
  refine sv_callV (pc := 4) (ψ := (ss_pi s)) (As := [.int (-1 : Int32), .int x1, .int x2]) (rest := []) (c := 65) (sv_d k_Ro_nextOnWay 4 rfl) g_Ro_between w604 in_Ro_between se_Ro_between cf7 kd65 (ss_lt (by decide)) rfl (Nat.le_of_ble_eq_true rfl) (V_Ro_between E (d + 0) (-1 : Int32) x1 x2 s) (Nat.le_of_ble_eq_true rfl) rfl (fun r1 => ?_)
  show sv_V E _ _ _ 7 _ [.int r1] (ss_e s) _
  refine sv_istore_n (pc := 7) (lv' := [(3, .int r1), (0, sv_r E 65), (1, .int x1), (2, .int x2)]) (sv_d k_Ro_nextOnWay 5 rfl) rfl (by decide) rfl ?_
  refine sv_iconst (pc := 8) (v := (0 : Int32)) (sv_d k_Ro_nextOnWay 6 rfl) (by decide) ?_
  refine sv_istore (pc := 9) (lv' := [(4, .int (0 : Int32)), (3, .int r1), (0, sv_r E 65), (1, .int x1), (2, .int x2)]) (sv_d k_Ro_nextOnWay 7 rfl) (by decide) rfl ?_
  exact sv_loc [2, 3, 4, 1, 0] rfl (V_Ro_nextOnWay_b11 E d s ss_F x1 x2 r1 (0 : Int32))
/-! Ro_lineOnWay -/
abbrev m_Ro_lineOnWay : sv_M := (yX7_lineOnWay, cX7_lineOnWay, 7, (some .int))
def t_Ro_lineOnWay : List (Nat × Instr × Nat) := [(0, .iload_n 1, 1), (1, .istore 4, 2), (3, .iconst 0, 1), (4, .istore 5, 2), (6, .iload 5, 2), (8, .bipush 16, 2), (10, .if_icmp .ge 61, 3), (13, .iload 5, 2), (15, .iload_n 3, 1), (16, .if_icmp .gt 55, 3), (19, .iload 4, 2), (21, .iload_n 2, 1), (22, .if_icmp .eq 49, 3), (25, .aload_n 0, 1), (26, .iload 4, 2), (28, .iload_n 2, 1), (29, .invokevirtual 51, 3), (32, .istore 6, 2), (34, .iload 6, 2), (36, .ifCond .ge 5, 3), (39, .iconst (-1), 1), (40, .ireturn, 1), (41, .iload 5, 2), (43, .iload_n 3, 1), (44, .if_icmp .ne 17, 3), (47, .aload_n 0, 1), (48, .getfield 18, 3), (51, .iload 4, 2), (53, .bipush 16, 2), (55, .imul, 1), (56, .iload 6, 2), (58, .iadd, 1), (59, .iaload, 1), (60, .ireturn, 1), (61, .iload 6, 2), (63, .istore 4, 2), (65, .iinc 5 1, 3), (68, .goto (-62), 3), (71, .iconst (-1), 1), (72, .ireturn, 1)]
theorem k_Ro_lineOnWay : sv_tk m_Ro_lineOnWay.2.1 t_Ro_lineOnWay := by decide +kernel
theorem g_Ro_lineOnWay : sv_G m_Ro_lineOnWay 3 := ⟨by decide +kernel, sv_in 599 (by decide +kernel) rfl, sv_in 91 (by decide +kernel) rfl, ⟨by decide, by decide⟩, by decide +kernel, by decide⟩
theorem in_Ro_lineOnWay : Cond.instanceMethod m_Ro_lineOnWay.1 ∈ sv_T := sv_in 597 (by decide +kernel) rfl
theorem se_Ro_lineOnWay : Cond.selects m_Ro_lineOnWay.1.cls m_Ro_lineOnWay.1 m_Ro_lineOnWay.1 ∈ sv_T := sv_in 598 (by decide +kernel) rfl
def F_Ro_lineOnWay_b6 (s : sv_S) : Nat → Int32 → Int32 → Int32 → Int32 → Option (Int32)
  | 0 => fun _ _ _ _ => none
  | n + 1 => fun x2 x3 x4 x5 =>
    if (16 : Int32) ≤ x5 then
      some (-1 : Int32)
    else
    if x3 < x5 then
      some (-1 : Int32)
    else
    if x4 = x2 then
      some (-1 : Int32)
    else
    (F_Ro_nextOnWay x4 x2 s).bind fun r1 =>
    if 0 ≤ r1 then
      if x5 = x3 then
        if sv_ib ((x4 * (16 : Int32)) + r1) 256 = true then
          some (s.1 68 ((x4 * (16 : Int32)) + r1).toNatClampNeg)
        else none
      else
      ss_let (x5 + (1 : Int32)) fun v2 =>
      F_Ro_lineOnWay_b6 s n x2 x3 r1 v2
    else
    some (-1 : Int32)
theorem V_Ro_lineOnWay_b6 (E : sv_E) (d : Nat) (s : sv_S) : ∀ (n : Nat) (x2 : Int32) (x3 : Int32) (x4 : Int32) (x5 : Int32), sv_V E m_Ro_lineOnWay (d + 2) (ss_pi s) 6 [(0, sv_r E 65), (2, .int x2), (3, .int x3), (4, .int x4), (5, .int x5)] [] (ss_e s) (F_Ro_lineOnWay_b6 s n x2 x3 x4 x5) := by
  intro n
  induction n with
  | zero => intro x2 x3 x4 x5; exact sv_none
  | succ n ih =>
    intro x2 x3 x4 x5
    unfold F_Ro_lineOnWay_b6
    refine sv_iload (pc := 6) 4 (sv_d k_Ro_lineOnWay 4 rfl) rfl ?_
    refine sv_bipush (pc := 8) (v := (16 : Int32)) (sv_d k_Ro_lineOnWay 5 rfl) (by decide) ?_
    refine sv_icmp_ge (pc := 10) (tgt := 71) (sv_d k_Ro_lineOnWay 6 rfl) (by decide) ?_ ?_
    · refine sv_iconst (pc := 71) (v := (-1 : Int32)) (sv_d k_Ro_lineOnWay 38 rfl) (by decide) ?_
      exact sv_ret (pc := 72) (sv_d k_Ro_lineOnWay 39 rfl) ⟨_, rfl, rfl⟩ rfl
    · refine sv_iload (pc := 13) 4 (sv_d k_Ro_lineOnWay 7 rfl) rfl ?_
      refine sv_iload_n (pc := 15) 2 (sv_d k_Ro_lineOnWay 8 rfl) rfl rfl ?_
      refine sv_icmp_gt (pc := 16) (tgt := 71) (sv_d k_Ro_lineOnWay 9 rfl) (by decide) ?_ ?_
      · refine sv_iconst (pc := 71) (v := (-1 : Int32)) (sv_d k_Ro_lineOnWay 38 rfl) (by decide) ?_
        exact sv_ret (pc := 72) (sv_d k_Ro_lineOnWay 39 rfl) ⟨_, rfl, rfl⟩ rfl
      · refine sv_iload (pc := 19) 3 (sv_d k_Ro_lineOnWay 10 rfl) rfl ?_
        refine sv_iload_n (pc := 21) 1 (sv_d k_Ro_lineOnWay 11 rfl) rfl rfl ?_
        refine sv_icmp_eq (pc := 22) (tgt := 71) (sv_d k_Ro_lineOnWay 12 rfl) (by decide) ?_ ?_
        · refine sv_iconst (pc := 71) (v := (-1 : Int32)) (sv_d k_Ro_lineOnWay 38 rfl) (by decide) ?_
          exact sv_ret (pc := 72) (sv_d k_Ro_lineOnWay 39 rfl) ⟨_, rfl, rfl⟩ rfl
        · refine sv_aload_n (pc := 25) 0 (sv_d k_Ro_lineOnWay 13 rfl) rfl rfl ?_
          refine sv_iload (pc := 26) 3 (sv_d k_Ro_lineOnWay 14 rfl) rfl ?_
          refine sv_iload_n (pc := 28) 1 (sv_d k_Ro_lineOnWay 15 rfl) rfl rfl ?_
          refine sv_callV (pc := 29) (ψ := (ss_pi s)) (As := [.int x4, .int x2]) (rest := []) (c := 65) (sv_d k_Ro_lineOnWay 16 rfl) g_Ro_nextOnWay w600 in_Ro_nextOnWay se_Ro_nextOnWay cf7 kd65 (ss_lt (by decide)) rfl (Nat.le_of_ble_eq_true rfl) (V_Ro_nextOnWay E (d + 0) x4 x2 s) (Nat.le_of_ble_eq_true rfl) rfl (fun r1 => ?_)
          show sv_V E _ _ _ 32 _ [.int r1] (ss_e s) _
          refine sv_istore (pc := 32) (lv' := [(6, .int r1), (0, sv_r E 65), (2, .int x2), (3, .int x3), (4, .int x4), (5, .int x5)]) (sv_d k_Ro_lineOnWay 17 rfl) (by decide) rfl ?_
          refine sv_iload (pc := 34) 0 (sv_d k_Ro_lineOnWay 18 rfl) rfl ?_
          refine sv_if_ge (pc := 36) (tgt := 41) (sv_d k_Ro_lineOnWay 19 rfl) (by decide) ?_ ?_
          · refine sv_iload (pc := 41) 5 (sv_d k_Ro_lineOnWay 22 rfl) rfl ?_
            refine sv_iload_n (pc := 43) 3 (sv_d k_Ro_lineOnWay 23 rfl) rfl rfl ?_
            refine sv_icmp_ne (pc := 44) (tgt := 61) (sv_d k_Ro_lineOnWay 24 rfl) (by decide) ?_ ?_
            · refine sv_iload (pc := 61) 0 (sv_d k_Ro_lineOnWay 34 rfl) rfl ?_
              refine sv_istore (pc := 63) (lv' := [(4, .int r1), (6, .int r1), (0, sv_r E 65), (2, .int x2), (3, .int x3), (5, .int x5)]) (sv_d k_Ro_lineOnWay 35 rfl) (by decide) rfl ?_
              refine ss_letr (fun v2 e_v2 => ?_)
              refine sv_iinc (pc := 65) (v := v2) (lv' := [(5, .int v2), (4, .int r1), (6, .int r1), (0, sv_r E 65), (2, .int x2), (3, .int x3)]) (sv_d k_Ro_lineOnWay 36 rfl) (n := 5) rfl (by rw [e_v2]; rfl) (by decide) rfl ?_
              refine sv_goto (pc := 68) (tgt := 6) (sv_d k_Ro_lineOnWay 37 rfl) (by decide) ?_
              exact sv_loc [3, 4, 5, 1, 0] rfl (ih x2 x3 r1 v2)
            · refine sv_aload_n (pc := 47) 1 (sv_d k_Ro_lineOnWay 25 rfl) rfl rfl ?_
              refine sv_getf (pc := 48) 2 (sv_d k_Ro_lineOnWay 26 rfl) cf7 (by decide) w133 kd65 (ss_lt (by decide)) (lr_65_2 E _) ?_
              refine sv_iload (pc := 51) 4 (sv_d k_Ro_lineOnWay 27 rfl) rfl ?_
              refine sv_bipush (pc := 53) (v := (16 : Int32)) (sv_d k_Ro_lineOnWay 28 rfl) (by decide) ?_
              refine sv_imul (pc := 55) (sv_d k_Ro_lineOnWay 29 rfl) ?_
              refine sv_iload (pc := 56) 0 (sv_d k_Ro_lineOnWay 30 rfl) rfl ?_
              refine sv_iadd (pc := 58) (sv_d k_Ro_lineOnWay 31 rfl) ?_
              refine ss_iald (pc := 59) (n := 256) (sv_d k_Ro_lineOnWay 32 rfl) kd68 (ss_lt (by decide)) rfl ?_
              exact sv_ret (pc := 60) (sv_d k_Ro_lineOnWay 33 rfl) ⟨_, rfl, rfl⟩ rfl
          · refine sv_iconst (pc := 39) (v := (-1 : Int32)) (sv_d k_Ro_lineOnWay 20 rfl) (by decide) ?_
            exact sv_ret (pc := 40) (sv_d k_Ro_lineOnWay 21 rfl) ⟨_, rfl, rfl⟩ rfl
def F_Ro_lineOnWay (x1 : Int32) (x2 : Int32) (x3 : Int32) (s : sv_S) : Option (Int32) :=
  F_Ro_lineOnWay_b6 s ss_F x2 x3 x1 (0 : Int32)
theorem V_Ro_lineOnWay (E : sv_E) (d : Nat) (x1 : Int32) (x2 : Int32) (x3 : Int32) (s : sv_S) : sv_V E m_Ro_lineOnWay (d + 2) (ss_pi s) 0 (lv_args 0 [sv_r E 65, .int x1, .int x2, .int x3]) [] (ss_e s) (F_Ro_lineOnWay x1 x2 x3 s) := by
  show sv_V E m_Ro_lineOnWay (d + 2) (ss_pi s) 0 [(0, sv_r E 65), (1, .int x1), (2, .int x2), (3, .int x3)] [] (ss_e s) _
  unfold F_Ro_lineOnWay
  refine sv_iload_n (pc := 0) 1 (sv_d k_Ro_lineOnWay 0 rfl) rfl rfl ?_
  refine sv_istore (pc := 1) (lv' := [(4, .int x1), (0, sv_r E 65), (1, .int x1), (2, .int x2), (3, .int x3)]) (sv_d k_Ro_lineOnWay 1 rfl) (by decide) rfl ?_
  refine sv_iconst (pc := 3) (v := (0 : Int32)) (sv_d k_Ro_lineOnWay 2 rfl) (by decide) ?_
  refine sv_istore (pc := 4) (lv' := [(5, .int (0 : Int32)), (4, .int x1), (0, sv_r E 65), (1, .int x1), (2, .int x2), (3, .int x3)]) (sv_d k_Ro_lineOnWay 3 rfl) (by decide) rfl ?_
  exact sv_loc [2, 4, 5, 1, 0] rfl (V_Ro_lineOnWay_b6 E d s ss_F x2 x3 x1 (0 : Int32))
/-! Ro_addMilesOfOwners -/
abbrev m_Ro_addMilesOfOwners : sv_M := (yX7_addMilesOfOwners, cX7_addMilesOfOwners, 6, none)
def t_Ro_addMilesOfOwners : List (Nat × Instr × Nat) := [(0, .iconst 0, 1), (1, .istore 4, 2), (3, .iload 4, 2), (5, .bipush 16, 2), (7, .if_icmp .ge 44, 3), (10, .aload_n 0, 1), (11, .iload_n 1, 1), (12, .iload_n 2, 1), (13, .iload 4, 2), (15, .invokevirtual 54, 3), (18, .istore 5, 2), (20, .iload 5, 2), (22, .ifCond .ge 4, 3), (25, .return_, 1), (26, .aload_n 3, 1), (27, .aload_n 0, 1), (28, .getfield 11, 3), (31, .iload 5, 2), (33, .iaload, 1), (34, .dup2, 1), (35, .iaload, 1), (36, .aload_n 0, 1), (37, .getfield 15, 3), (40, .iload 5, 2), (42, .iaload, 1), (43, .iadd, 1), (44, .iastore, 1), (45, .iinc 4 1, 3), (48, .goto (-45), 3), (51, .return_, 1)]
theorem k_Ro_addMilesOfOwners : sv_tk m_Ro_addMilesOfOwners.2.1 t_Ro_addMilesOfOwners := by decide +kernel
theorem g_Ro_addMilesOfOwners : sv_G m_Ro_addMilesOfOwners 3 := ⟨by decide +kernel, sv_in 929 (by decide +kernel) rfl, sv_in 91 (by decide +kernel) rfl, ⟨by decide, by decide⟩, by decide +kernel, by decide⟩
theorem in_Ro_addMilesOfOwners : Cond.instanceMethod m_Ro_addMilesOfOwners.1 ∈ sv_T := sv_in 927 (by decide +kernel) rfl
theorem se_Ro_addMilesOfOwners : Cond.selects m_Ro_addMilesOfOwners.1.cls m_Ro_addMilesOfOwners.1 m_Ro_addMilesOfOwners.1 ∈ sv_T := sv_in 928 (by decide +kernel) rfl
def F_Ro_addMilesOfOwners_b3 : Nat → Int32 → Int32 → Nat → Int32 → sv_S → Option (sv_S)
  | 0 => fun _ _ _ _ _ => none
  | n + 1 => fun x1 x2 a3 x4 s =>
    if (16 : Int32) ≤ x4 then
      some s
    else
    (F_Ro_lineOnWay x1 x2 x4 s).bind fun r1 =>
    if 0 ≤ r1 then
      if sv_ib r1 40 = true then
        if sv_ib (s.1 66 r1.toNatClampNeg) (ss_N s.2.2.2.1 a3) = true then
          if sv_ib r1 40 = true then
            if sv_ib (s.1 66 r1.toNatClampNeg) (ss_N s.2.2.2.1 a3) = true then
              ss_let (ss_setI s a3 (s.1 66 r1.toNatClampNeg).toNatClampNeg ((s.1 a3 (s.1 66 r1.toNatClampNeg).toNatClampNeg) + (s.1 67 r1.toNatClampNeg))) fun s2 =>
              ss_let (x4 + (1 : Int32)) fun v3 =>
              F_Ro_addMilesOfOwners_b3  n x1 x2 a3 v3 s2
            else none
          else none
        else none
      else none
    else
    some s
theorem V_Ro_addMilesOfOwners_b3 (E : sv_E) (d : Nat) : ∀ (n : Nat) (x1 : Int32) (x2 : Int32) (a3 : Nat) (x4 : Int32) (s : sv_S) (h_a3 : ss_K a3 = 20) (o_a3 : 64 ≤ a3) (l_a3 : a3 < 243 + s.2.2.2.2.1), sv_V E m_Ro_addMilesOfOwners (d + 3) ss_v 3 [(0, sv_r E 65), (1, .int x1), (2, .int x2), (3, sv_r E a3), (4, .int x4)] [] (ss_e s) (F_Ro_addMilesOfOwners_b3 n x1 x2 a3 x4 s) := by
  intro n
  induction n with
  | zero => intro x1 x2 a3 x4 s h_a3 o_a3 l_a3; exact sv_none
  | succ n ih =>
    intro x1 x2 a3 x4 s h_a3 o_a3 l_a3
    unfold F_Ro_addMilesOfOwners_b3
    refine sv_iload (pc := 3) 4 (sv_d k_Ro_addMilesOfOwners 2 rfl) rfl ?_
    refine sv_bipush (pc := 5) (v := (16 : Int32)) (sv_d k_Ro_addMilesOfOwners 3 rfl) (by decide) ?_
    refine sv_icmp_ge (pc := 7) (tgt := 51) (sv_d k_Ro_addMilesOfOwners 4 rfl) (by decide) ?_ ?_
    · exact sv_retv (pc := 51) (sv_d k_Ro_addMilesOfOwners 29 rfl) rfl rfl
    · refine sv_aload_n (pc := 10) 0 (sv_d k_Ro_addMilesOfOwners 5 rfl) rfl rfl ?_
      refine sv_iload_n (pc := 11) 1 (sv_d k_Ro_addMilesOfOwners 6 rfl) rfl rfl ?_
      refine sv_iload_n (pc := 12) 2 (sv_d k_Ro_addMilesOfOwners 7 rfl) rfl rfl ?_
      refine sv_iload (pc := 13) 4 (sv_d k_Ro_addMilesOfOwners 8 rfl) rfl ?_
      refine sv_callV (pc := 15) (ψ := (ss_pi s)) (As := [.int x1, .int x2, .int x4]) (rest := []) (c := 65) (sv_d k_Ro_addMilesOfOwners 9 rfl) g_Ro_lineOnWay w930 in_Ro_lineOnWay se_Ro_lineOnWay cf7 kd65 (ss_lt (by decide)) rfl (Nat.le_of_ble_eq_true rfl) (V_Ro_lineOnWay E (d + 0) x1 x2 x4 s) (Nat.le_of_ble_eq_true rfl) rfl (fun r1 => ?_)
      show sv_V E _ _ _ 18 _ [.int r1] (ss_e s) _
      refine sv_istore (pc := 18) (lv' := [(5, .int r1), (0, sv_r E 65), (1, .int x1), (2, .int x2), (3, sv_r E a3), (4, .int x4)]) (sv_d k_Ro_addMilesOfOwners 10 rfl) (by decide) rfl ?_
      refine sv_iload (pc := 20) 0 (sv_d k_Ro_addMilesOfOwners 11 rfl) rfl ?_
      refine sv_if_ge (pc := 22) (tgt := 26) (sv_d k_Ro_addMilesOfOwners 12 rfl) (by decide) ?_ ?_
      · refine sv_aload_n (pc := 26) 4 (sv_d k_Ro_addMilesOfOwners 14 rfl) rfl rfl ?_
        refine sv_aload_n (pc := 27) 1 (sv_d k_Ro_addMilesOfOwners 15 rfl) rfl rfl ?_
        refine sv_getf (pc := 28) 0 (sv_d k_Ro_addMilesOfOwners 16 rfl) cf7 (by decide) w131 kd65 (ss_lt (by decide)) (lr_65_0 E _) ?_
        refine sv_iload (pc := 31) 0 (sv_d k_Ro_addMilesOfOwners 17 rfl) rfl ?_
        refine ss_iald (pc := 33) (n := 40) (sv_d k_Ro_addMilesOfOwners 18 rfl) kd66 (ss_lt (by decide)) rfl ?_
        refine sv_dup2 (pc := 34) (sv_d k_Ro_addMilesOfOwners 19 rfl) rfl rfl ?_
        refine ss_iald (pc := 35) (n := (ss_N s.2.2.2.1 a3)) (sv_d k_Ro_addMilesOfOwners 20 rfl) h_a3 l_a3 rfl ?_
        refine sv_aload_n (pc := 36) 1 (sv_d k_Ro_addMilesOfOwners 21 rfl) rfl rfl ?_
        refine sv_getf (pc := 37) 1 (sv_d k_Ro_addMilesOfOwners 22 rfl) cf7 (by decide) w132 kd65 (ss_lt (by decide)) (lr_65_1 E _) ?_
        refine sv_iload (pc := 40) 0 (sv_d k_Ro_addMilesOfOwners 23 rfl) rfl ?_
        refine ss_iald (pc := 42) (n := 40) (sv_d k_Ro_addMilesOfOwners 24 rfl) kd67 (ss_lt (by decide)) rfl ?_
        refine sv_iadd (pc := 43) (sv_d k_Ro_addMilesOfOwners 25 rfl) ?_
        refine ss_iast (pc := 44) (n := (ss_N s.2.2.2.1 a3)) (sv_d k_Ro_addMilesOfOwners 26 rfl) h_a3 o_a3 l_a3 rfl (ss_lets (fun s2 e_s2 => ?_))
        have l_a3 : a3 < 243 + s2.2.2.2.2.1 := by rw [e_s2]; exact l_a3
        refine ss_letr (fun v3 e_v3 => ?_)
        refine sv_iinc (pc := 45) (v := v3) (lv' := [(4, .int v3), (5, .int r1), (0, sv_r E 65), (1, .int x1), (2, .int x2), (3, sv_r E a3)]) (sv_d k_Ro_addMilesOfOwners 27 rfl) (n := 5) rfl (by rw [e_v3]; rfl) (by decide) rfl ?_
        refine sv_goto (pc := 48) (tgt := 3) (sv_d k_Ro_addMilesOfOwners 28 rfl) (by decide) ?_
        exact sv_loc [2, 3, 4, 5, 0] rfl (ih x1 x2 a3 v3 s2 h_a3 o_a3 l_a3)
      · exact sv_retv (pc := 25) (sv_d k_Ro_addMilesOfOwners 13 rfl) rfl rfl
def F_Ro_addMilesOfOwners (x1 : Int32) (x2 : Int32) (a3 : Nat) (s : sv_S) : Option (sv_S) :=
  F_Ro_addMilesOfOwners_b3 ss_F x1 x2 a3 (0 : Int32) s
theorem V_Ro_addMilesOfOwners (E : sv_E) (d : Nat) (x1 : Int32) (x2 : Int32) (a3 : Nat) (s : sv_S) (h_a3 : ss_K a3 = 20) (o_a3 : 64 ≤ a3) (l_a3 : a3 < 243 + s.2.2.2.2.1) : sv_V E m_Ro_addMilesOfOwners (d + 3) ss_v 0 (lv_args 0 [sv_r E 65, .int x1, .int x2, sv_r E a3]) [] (ss_e s) (F_Ro_addMilesOfOwners x1 x2 a3 s) := by
  show sv_V E m_Ro_addMilesOfOwners (d + 3) ss_v 0 [(0, sv_r E 65), (1, .int x1), (2, .int x2), (3, sv_r E a3)] [] (ss_e s) _
  unfold F_Ro_addMilesOfOwners
  refine sv_iconst (pc := 0) (v := (0 : Int32)) (sv_d k_Ro_addMilesOfOwners 0 rfl) (by decide) ?_
  refine sv_istore (pc := 1) (lv' := [(4, .int (0 : Int32)), (0, sv_r E 65), (1, .int x1), (2, .int x2), (3, sv_r E a3)]) (sv_d k_Ro_addMilesOfOwners 1 rfl) (by decide) rfl ?_
  exact sv_loc [1, 2, 3, 4, 0] rfl (V_Ro_addMilesOfOwners_b3 E d ss_F x1 x2 a3 (0 : Int32) s h_a3 o_a3 l_a3)
