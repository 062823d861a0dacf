/-! JM_min -/
abbrev m_JM_min : sv_M := (yJ9_min_7cf53, cJ9_min_7cf53, 2, (some .int))
def t_JM_min : List (Nat × Instr × Nat) := [(0, .iload_n 0, 1), (1, .iload_n 1, 1), (2, .if_icmp .gt 7, 3), (5, .iload_n 0, 1), (6, .goto 4, 3), (9, .iload_n 1, 1), (10, .ireturn, 1)]
theorem k_JM_min : sv_tk m_JM_min.2.1 t_JM_min := by decide +kernel
theorem g_JM_min : sv_G m_JM_min 2 := ⟨by decide +kernel, sv_in 580 (by decide +kernel) rfl, sv_in 104 (by decide +kernel) rfl, ⟨by decide, by decide⟩, by decide +kernel, by decide⟩
theorem st_JM_min : Cond.static m_JM_min.1 ∈ sv_T := sv_in 579 (by decide +kernel) rfl
def F_JM_min (x0 : Int32) (x1 : Int32) (s : sv_S) : Option (Int32) :=
  if x1 < x0 then
    some x1
  else
  some x0
theorem V_JM_min (E : sv_E) (d : Nat) (x0 : Int32) (x1 : Int32) (s : sv_S) : sv_V E m_JM_min (d + 0) (ss_pi s) 0 (lv_args 0 [.int x0, .int x1]) [] (ss_e s) (F_JM_min x0 x1 s) := by
  show sv_V E m_JM_min (d + 0) (ss_pi s) 0 [(0, .int x0), (1, .int x1)] [] (ss_e s) _
  unfold F_JM_min
  refine sv_iload_n (pc := 0) 0 (sv_d k_JM_min 0 rfl) rfl rfl ?_
  refine sv_iload_n (pc := 1) 1 (sv_d k_JM_min 1 rfl) rfl rfl ?_
  refine sv_icmp_gt (pc := 2) (tgt := 9) (sv_d k_JM_min 2 rfl) (by decide) ?_ ?_
  · refine sv_iload_n (pc := 9) 1 (sv_d k_JM_min 5 rfl) rfl rfl ?_
    exact sv_ret (pc := 10) (sv_d k_JM_min 6 rfl) ⟨_, rfl, rfl⟩ rfl
  · refine sv_iload_n (pc := 5) 0 (sv_d k_JM_min 3 rfl) rfl rfl ?_
    refine sv_goto (pc := 6) (tgt := 10) (sv_d k_JM_min 4 rfl) (by decide) ?_
    exact sv_ret (pc := 10) (sv_d k_JM_min 6 rfl) ⟨_, rfl, rfl⟩ rfl
/-! JM_max -/
abbrev m_JM_max : sv_M := (yJ9_max_7cf53, cJ9_max_7cf53, 2, (some .int))
def t_JM_max : List (Nat × Instr × Nat) := [(0, .iload_n 0, 1), (1, .iload_n 1, 1), (2, .if_icmp .lt 7, 3), (5, .iload_n 0, 1), (6, .goto 4, 3), (9, .iload_n 1, 1), (10, .ireturn, 1)]
theorem k_JM_max : sv_tk m_JM_max.2.1 t_JM_max := by decide +kernel
theorem g_JM_max : sv_G m_JM_max 2 := ⟨by decide +kernel, sv_in 713 (by decide +kernel) rfl, sv_in 104 (by decide +kernel) rfl, ⟨by decide, by decide⟩, by decide +kernel, by decide⟩
theorem st_JM_max : Cond.static m_JM_max.1 ∈ sv_T := sv_in 712 (by decide +kernel) rfl
def F_JM_max (x0 : Int32) (x1 : Int32) (s : sv_S) : Option (Int32) :=
  if x0 < x1 then
    some x1
  else
  some x0
theorem V_JM_max (E : sv_E) (d : Nat) (x0 : Int32) (x1 : Int32) (s : sv_S) : sv_V E m_JM_max (d + 0) (ss_pi s) 0 (lv_args 0 [.int x0, .int x1]) [] (ss_e s) (F_JM_max x0 x1 s) := by
  show sv_V E m_JM_max (d + 0) (ss_pi s) 0 [(0, .int x0), (1, .int x1)] [] (ss_e s) _
  unfold F_JM_max
  refine sv_iload_n (pc := 0) 0 (sv_d k_JM_max 0 rfl) rfl rfl ?_
  refine sv_iload_n (pc := 1) 1 (sv_d k_JM_max 1 rfl) rfl rfl ?_
  refine sv_icmp_lt (pc := 2) (tgt := 9) (sv_d k_JM_max 2 rfl) (by decide) ?_ ?_
  · refine sv_iload_n (pc := 9) 1 (sv_d k_JM_max 5 rfl) rfl rfl ?_
    exact sv_ret (pc := 10) (sv_d k_JM_max 6 rfl) ⟨_, rfl, rfl⟩ rfl
  · refine sv_iload_n (pc := 5) 0 (sv_d k_JM_max 3 rfl) rfl rfl ?_
    refine sv_goto (pc := 6) (tgt := 10) (sv_d k_JM_max 4 rfl) (by decide) ?_
    exact sv_ret (pc := 10) (sv_d k_JM_max 6 rfl) ⟨_, rfl, rfl⟩ rfl
/-! JM_abs -/
abbrev m_JM_abs : sv_M := (yJ9_abs_0f7a4, cJ9_abs_0f7a4, 1, (some .int))
def t_JM_abs : List (Nat × Instr × Nat) := [(0, .iload_n 0, 1), (1, .ifCond .ge 8, 3), (4, .iload_n 0, 1), (5, .ineg, 1), (6, .goto 4, 3), (9, .iload_n 0, 1), (10, .ireturn, 1)]
theorem k_JM_abs : sv_tk m_JM_abs.2.1 t_JM_abs := by decide +kernel
theorem g_JM_abs : sv_G m_JM_abs 1 := ⟨by decide +kernel, sv_in 999 (by decide +kernel) rfl, sv_in 104 (by decide +kernel) rfl, ⟨by decide, by decide⟩, by decide +kernel, by decide⟩
theorem st_JM_abs : Cond.static m_JM_abs.1 ∈ sv_T := sv_in 998 (by decide +kernel) rfl
def F_JM_abs (x0 : Int32) (s : sv_S) : Option (Int32) :=
  if 0 ≤ x0 then
    some x0
  else
  some (-x0)
theorem V_JM_abs (E : sv_E) (d : Nat) (x0 : Int32) (s : sv_S) : sv_V E m_JM_abs (d + 0) (ss_pi s) 0 (lv_args 0 [.int x0]) [] (ss_e s) (F_JM_abs x0 s) := by
  show sv_V E m_JM_abs (d + 0) (ss_pi s) 0 [(0, .int x0)] [] (ss_e s) _
  unfold F_JM_abs
  refine sv_iload_n (pc := 0) 0 (sv_d k_JM_abs 0 rfl) rfl rfl ?_
  refine sv_if_ge (pc := 1) (tgt := 9) (sv_d k_JM_abs 1 rfl) (by decide) ?_ ?_
  · refine sv_iload_n (pc := 9) 0 (sv_d k_JM_abs 5 rfl) rfl rfl ?_
    exact sv_ret (pc := 10) (sv_d k_JM_abs 6 rfl) ⟨_, rfl, rfl⟩ rfl
  · refine sv_iload_n (pc := 4) 0 (sv_d k_JM_abs 2 rfl) rfl rfl ?_
    refine sv_ineg (pc := 5) (sv_d k_JM_abs 3 rfl) ?_
    refine sv_goto (pc := 6) (tgt := 10) (sv_d k_JM_abs 4 rfl) (by decide) ?_
    exact sv_ret (pc := 10) (sv_d k_JM_abs 6 rfl) ⟨_, rfl, rfl⟩ rfl
/-! JI_bitCount -/
abbrev m_JI_bitCount : sv_M := (yJ6_bitCount_0f7a4, cJ6_bitCount_0f7a4, 1, (some .int))
def t_JI_bitCount : List (Nat × Instr × Nat) := [(0, .iload_n 0, 1), (1, .iload_n 0, 1), (2, .iconst 1, 1), (3, .iushr, 1), (4, .ldc_w 265, 3), (7, .iand, 1), (8, .isub, 1), (9, .istore_n 0, 1), (10, .iload_n 0, 1), (11, .ldc_w 266, 3), (14, .iand, 1), (15, .iload_n 0, 1), (16, .iconst 2, 1), (17, .iushr, 1), (18, .ldc_w 266, 3), (21, .iand, 1), (22, .iadd, 1), (23, .istore_n 0, 1), (24, .iload_n 0, 1), (25, .iload_n 0, 1), (26, .iconst 4, 1), (27, .iushr, 1), (28, .iadd, 1), (29, .ldc_w 267, 3), (32, .iand, 1), (33, .istore_n 0, 1), (34, .iload_n 0, 1), (35, .iload_n 0, 1), (36, .bipush 8, 2), (38, .iushr, 1), (39, .iadd, 1), (40, .istore_n 0, 1), (41, .iload_n 0, 1), (42, .iload_n 0, 1), (43, .bipush 16, 2), (45, .iushr, 1), (46, .iadd, 1), (47, .istore_n 0, 1), (48, .iload_n 0, 1), (49, .bipush 63, 2), (51, .iand, 1), (52, .ireturn, 1)]
theorem k_JI_bitCount : sv_tk m_JI_bitCount.2.1 t_JI_bitCount := by decide +kernel
theorem g_JI_bitCount : sv_G m_JI_bitCount 1 := ⟨by decide +kernel, sv_in 1184 (by decide +kernel) rfl, sv_in 110 (by decide +kernel) rfl, ⟨by decide, by decide⟩, by decide +kernel, by decide⟩
theorem st_JI_bitCount : Cond.static m_JI_bitCount.1 ∈ sv_T := sv_in 1183 (by decide +kernel) rfl
def F_JI_bitCount (x0 : Int32) (s : sv_S) : Option (Int32) :=
  ss_let (x0 - (((x0.toUInt32 >>> ((1 : Int32).toUInt32 &&& Int32.toUInt32 31)).toInt32) &&& (1431655765 : Int32))) fun v1 =>
  ss_let ((v1 &&& (858993459 : Int32)) + (((v1.toUInt32 >>> ((2 : Int32).toUInt32 &&& Int32.toUInt32 31)).toInt32) &&& (858993459 : Int32))) fun v2 =>
  ss_let ((v2 + ((v2.toUInt32 >>> ((4 : Int32).toUInt32 &&& Int32.toUInt32 31)).toInt32)) &&& (252645135 : Int32)) fun v3 =>
  ss_let (v3 + ((v3.toUInt32 >>> ((8 : Int32).toUInt32 &&& Int32.toUInt32 31)).toInt32)) fun v4 =>
  ss_let (v4 + ((v4.toUInt32 >>> ((16 : Int32).toUInt32 &&& Int32.toUInt32 31)).toInt32)) fun v5 =>
  some (v5 &&& (63 : Int32))
theorem V_JI_bitCount (E : sv_E) (d : Nat) (x0 : Int32) (s : sv_S) : sv_V E m_JI_bitCount (d + 0) (ss_pi s) 0 (lv_args 0 [.int x0]) [] (ss_e s) (F_JI_bitCount x0 s) := by
  show sv_V E m_JI_bitCount (d + 0) (ss_pi s) 0 [(0, .int x0)] [] (ss_e s) _
  unfold F_JI_bitCount
  refine sv_iload_n (pc := 0) 0 (sv_d k_JI_bitCount 0 rfl) rfl rfl ?_
  refine sv_iload_n (pc := 1) 0 (sv_d k_JI_bitCount 1 rfl) rfl rfl ?_
  refine sv_iconst (pc := 2) (v := (1 : Int32)) (sv_d k_JI_bitCount 2 rfl) (by decide) ?_
  refine sv_iushr (pc := 3) (sv_d k_JI_bitCount 3 rfl) ?_
  refine sv_ldcw (pc := 4) (v := (1431655765 : Int32)) w1185 (sv_d k_JI_bitCount 4 rfl) ?_
  refine sv_iand (pc := 7) (sv_d k_JI_bitCount 5 rfl) ?_
  refine sv_isub (pc := 8) (sv_d k_JI_bitCount 6 rfl) ?_
  refine ss_top (fun v1 e_v1 => ?_)
  refine sv_istore_n (pc := 9) (lv' := [(0, .int v1)]) (sv_d k_JI_bitCount 7 rfl) rfl (by decide) rfl ?_
  refine sv_iload_n (pc := 10) 0 (sv_d k_JI_bitCount 8 rfl) rfl rfl ?_
  refine sv_ldcw (pc := 11) (v := (858993459 : Int32)) w1186 (sv_d k_JI_bitCount 9 rfl) ?_
  refine sv_iand (pc := 14) (sv_d k_JI_bitCount 10 rfl) ?_
  refine sv_iload_n (pc := 15) 0 (sv_d k_JI_bitCount 11 rfl) rfl rfl ?_
  refine sv_iconst (pc := 16) (v := (2 : Int32)) (sv_d k_JI_bitCount 12 rfl) (by decide) ?_
  refine sv_iushr (pc := 17) (sv_d k_JI_bitCount 13 rfl) ?_
  refine sv_ldcw (pc := 18) (v := (858993459 : Int32)) w1186 (sv_d k_JI_bitCount 14 rfl) ?_
  refine sv_iand (pc := 21) (sv_d k_JI_bitCount 15 rfl) ?_
  refine sv_iadd (pc := 22) (sv_d k_JI_bitCount 16 rfl) ?_
  refine ss_top (fun v2 e_v2 => ?_)
  refine sv_istore_n (pc := 23) (lv' := [(0, .int v2)]) (sv_d k_JI_bitCount 17 rfl) rfl (by decide) rfl ?_
  refine sv_iload_n (pc := 24) 0 (sv_d k_JI_bitCount 18 rfl) rfl rfl ?_
  refine sv_iload_n (pc := 25) 0 (sv_d k_JI_bitCount 19 rfl) rfl rfl ?_
  refine sv_iconst (pc := 26) (v := (4 : Int32)) (sv_d k_JI_bitCount 20 rfl) (by decide) ?_
  refine sv_iushr (pc := 27) (sv_d k_JI_bitCount 21 rfl) ?_
  refine sv_iadd (pc := 28) (sv_d k_JI_bitCount 22 rfl) ?_
  refine sv_ldcw (pc := 29) (v := (252645135 : Int32)) w1187 (sv_d k_JI_bitCount 23 rfl) ?_
  refine sv_iand (pc := 32) (sv_d k_JI_bitCount 24 rfl) ?_
  refine ss_top (fun v3 e_v3 => ?_)
  refine sv_istore_n (pc := 33) (lv' := [(0, .int v3)]) (sv_d k_JI_bitCount 25 rfl) rfl (by decide) rfl ?_
  refine sv_iload_n (pc := 34) 0 (sv_d k_JI_bitCount 26 rfl) rfl rfl ?_
  refine sv_iload_n (pc := 35) 0 (sv_d k_JI_bitCount 27 rfl) rfl rfl ?_
  refine sv_bipush (pc := 36) (v := (8 : Int32)) (sv_d k_JI_bitCount 28 rfl) (by decide) ?_
  refine sv_iushr (pc := 38) (sv_d k_JI_bitCount 29 rfl) ?_
  refine sv_iadd (pc := 39) (sv_d k_JI_bitCount 30 rfl) ?_
  refine ss_top (fun v4 e_v4 => ?_)
  refine sv_istore_n (pc := 40) (lv' := [(0, .int v4)]) (sv_d k_JI_bitCount 31 rfl) rfl (by decide) rfl ?_
  refine sv_iload_n (pc := 41) 0 (sv_d k_JI_bitCount 32 rfl) rfl rfl ?_
  refine sv_iload_n (pc := 42) 0 (sv_d k_JI_bitCount 33 rfl) rfl rfl ?_
  refine sv_bipush (pc := 43) (v := (16 : Int32)) (sv_d k_JI_bitCount 34 rfl) (by decide) ?_
  refine sv_iushr (pc := 45) (sv_d k_JI_bitCount 35 rfl) ?_
  refine sv_iadd (pc := 46) (sv_d k_JI_bitCount 36 rfl) ?_
  refine ss_top (fun v5 e_v5 => ?_)
  refine sv_istore_n (pc := 47) (lv' := [(0, .int v5)]) (sv_d k_JI_bitCount 37 rfl) rfl (by decide) rfl ?_
  refine sv_iload_n (pc := 48) 0 (sv_d k_JI_bitCount 38 rfl) rfl rfl ?_
  refine sv_bipush (pc := 49) (v := (63 : Int32)) (sv_d k_JI_bitCount 39 rfl) (by decide) ?_
  refine sv_iand (pc := 51) (sv_d k_JI_bitCount 40 rfl) ?_
  exact sv_ret (pc := 52) (sv_d k_JI_bitCount 41 rfl) ⟨_, rfl, rfl⟩ rfl
/-! JA_fillI -/
abbrev m_JA_fillI : sv_M := (yJ7_fill_53178, cJ7_fill_53178, 4, none)
def t_JA_fillI : List (Nat × Instr × Nat) := [(0, .iconst 0, 1), (1, .istore_n 2, 1), (2, .aload_n 0, 1), (3, .arraylength, 1), (4, .istore_n 3, 1), (5, .iload_n 2, 1), (6, .iload_n 3, 1), (7, .if_icmp .ge 13, 3), (10, .aload_n 0, 1), (11, .iload_n 2, 1), (12, .iload_n 1, 1), (13, .iastore, 1), (14, .iinc 2 1, 3), (17, .goto (-12), 3), (20, .return_, 1)]
theorem k_JA_fillI : sv_tk m_JA_fillI.2.1 t_JA_fillI := by decide +kernel
theorem g_JA_fillI : sv_G m_JA_fillI 2 := ⟨by decide +kernel, sv_in 129 (by decide +kernel) rfl, sv_in 92 (by decide +kernel) rfl, ⟨by decide, by decide⟩, by decide +kernel, by decide⟩
theorem st_JA_fillI : Cond.static m_JA_fillI.1 ∈ sv_T := sv_in 128 (by decide +kernel) rfl
def F_JA_fillI_b5 : Nat → Nat → Int32 → Int32 → Int32 → sv_S → Option (sv_S)
  | 0 => fun _ _ _ _ _ => none
  | n + 1 => fun a0 x1 x2 x3 s =>
    if x3 ≤ x2 then
      some s
    else
    if sv_ib x2 (ss_N s.2.2.2.1 a0) = true then
      ss_let (ss_setI s a0 x2.toNatClampNeg x1) fun s2 =>
      ss_let (x2 + (1 : Int32)) fun v3 =>
      F_JA_fillI_b5  n a0 x1 v3 x3 s2
    else none
theorem V_JA_fillI_b5 (E : sv_E) (d : Nat) : ∀ (n : Nat) (a0 : Nat) (x1 : Int32) (x2 : Int32) (x3 : Int32) (s : sv_S) (h_a0 : ss_K a0 = 20) (o_a0 : 64 ≤ a0) (l_a0 : a0 < 243 + s.2.2.2.2.1), sv_V E m_JA_fillI (d + 0) ss_v 5 [(0, sv_r E a0), (1, .int x1), (2, .int x2), (3, .int x3)] [] (ss_e s) (F_JA_fillI_b5 n a0 x1 x2 x3 s) := by
  intro n
  induction n with
  | zero => intro a0 x1 x2 x3 s h_a0 o_a0 l_a0; exact sv_none
  | succ n ih =>
    intro a0 x1 x2 x3 s h_a0 o_a0 l_a0
    unfold F_JA_fillI_b5
    refine sv_iload_n (pc := 5) 2 (sv_d k_JA_fillI 5 rfl) rfl rfl ?_
    refine sv_iload_n (pc := 6) 3 (sv_d k_JA_fillI 6 rfl) rfl rfl ?_
    refine sv_icmp_ge (pc := 7) (tgt := 20) (sv_d k_JA_fillI 7 rfl) (by decide) ?_ ?_
    · exact sv_retv (pc := 20) (sv_d k_JA_fillI 14 rfl) rfl rfl
    · refine sv_aload_n (pc := 10) 0 (sv_d k_JA_fillI 8 rfl) rfl rfl ?_
      refine sv_iload_n (pc := 11) 2 (sv_d k_JA_fillI 9 rfl) rfl rfl ?_
      refine sv_iload_n (pc := 12) 1 (sv_d k_JA_fillI 10 rfl) rfl rfl ?_
      refine ss_iast (pc := 13) (n := (ss_N s.2.2.2.1 a0)) (sv_d k_JA_fillI 11 rfl) h_a0 o_a0 l_a0 rfl (ss_lets (fun s2 e_s2 => ?_))
      have l_a0 : a0 < 243 + s2.2.2.2.2.1 := by rw [e_s2]; exact l_a0
      refine ss_letr (fun v3 e_v3 => ?_)
      refine sv_iinc (pc := 14) (v := v3) (lv' := [(2, .int v3), (0, sv_r E a0), (1, .int x1), (3, .int x3)]) (sv_d k_JA_fillI 12 rfl) (n := 2) rfl (by rw [e_v3]; rfl) (by decide) rfl ?_
      refine sv_goto (pc := 17) (tgt := 5) (sv_d k_JA_fillI 13 rfl) (by decide) ?_
      exact sv_loc [1, 2, 0, 3] rfl (ih a0 x1 v3 x3 s2 h_a0 o_a0 l_a0)
def F_JA_fillI (a0 : Nat) (x1 : Int32) (s : sv_S) : Option (sv_S) :=
  ss_let (Int32.ofNat (ss_N s.2.2.2.1 a0)) fun v1 =>
  F_JA_fillI_b5 ss_F a0 x1 (0 : Int32) v1 s
theorem V_JA_fillI (E : sv_E) (d : Nat) (a0 : Nat) (x1 : Int32) (s : sv_S) (h_a0 : ss_K a0 = 20) (o_a0 : 64 ≤ a0) (l_a0 : a0 < 243 + s.2.2.2.2.1) : sv_V E m_JA_fillI (d + 0) ss_v 0 (lv_args 0 [sv_r E a0, .int x1]) [] (ss_e s) (F_JA_fillI a0 x1 s) := by
  show sv_V E m_JA_fillI (d + 0) ss_v 0 [(0, sv_r E a0), (1, .int x1)] [] (ss_e s) _
  unfold F_JA_fillI
  refine sv_iconst (pc := 0) (v := (0 : Int32)) (sv_d k_JA_fillI 0 rfl) (by decide) ?_
  refine sv_istore_n (pc := 1) (lv' := [(2, .int (0 : Int32)), (0, sv_r E a0), (1, .int x1)]) (sv_d k_JA_fillI 1 rfl) rfl (by decide) rfl ?_
  refine sv_aload_n (pc := 2) 1 (sv_d k_JA_fillI 2 rfl) rfl rfl ?_
  refine ss_alen (pc := 3) (v := (Int32.ofNat (ss_N s.2.2.2.1 a0))) (sv_d k_JA_fillI 3 rfl) h_a0 (by decide) (by decide) l_a0 rfl ?_
  refine ss_top (fun v1 e_v1 => ?_)
  refine sv_istore_n (pc := 4) (lv' := [(3, .int v1), (2, .int (0 : Int32)), (0, sv_r E a0), (1, .int x1)]) (sv_d k_JA_fillI 4 rfl) rfl (by decide) rfl ?_
  exact sv_loc [2, 3, 1, 0] rfl (V_JA_fillI_b5 E d ss_F a0 x1 (0 : Int32) v1 s h_a0 o_a0 l_a0)
/-! JA_fillL -/
abbrev m_JA_fillL : sv_M := (yJ7_fill_d0a16, cJ7_fill_d0a16, 5, none)
def t_JA_fillL : List (Nat × Instr × Nat) := [(0, .iconst 0, 1), (1, .istore_n 3, 1), (2, .aload_n 0, 1), (3, .arraylength, 1), (4, .istore 4, 2), (6, .iload_n 3, 1), (7, .iload 4, 2), (9, .if_icmp .ge 13, 3), (12, .aload_n 0, 1), (13, .iload_n 3, 1), (14, .lload_n 1, 1), (15, .lastore, 1), (16, .iinc 3 1, 3), (19, .goto (-13), 3), (22, .return_, 1)]
theorem k_JA_fillL : sv_tk m_JA_fillL.2.1 t_JA_fillL := by decide +kernel
theorem g_JA_fillL : sv_G m_JA_fillL 2 := ⟨by decide +kernel, sv_in 1275 (by decide +kernel) rfl, sv_in 92 (by decide +kernel) rfl, ⟨by decide, by decide⟩, by decide +kernel, by decide⟩
theorem st_JA_fillL : Cond.static m_JA_fillL.1 ∈ sv_T := sv_in 1274 (by decide +kernel) rfl
def F_JA_fillL_b6 : Nat → Nat → Int64 → Int32 → Int32 → sv_S → Option (sv_S)
  | 0 => fun _ _ _ _ _ => none
  | n + 1 => fun a0 y1 x3 x4 s =>
    if x4 ≤ x3 then
      some s
    else
    if sv_ib x3 (ss_N s.2.2.2.1 a0) = true then
      ss_let (ss_setL s a0 x3.toNatClampNeg y1) fun s2 =>
      ss_let (x3 + (1 : Int32)) fun v3 =>
      F_JA_fillL_b6  n a0 y1 v3 x4 s2
    else none
theorem V_JA_fillL_b6 (E : sv_E) (d : Nat) : ∀ (n : Nat) (a0 : Nat) (y1 : Int64) (x3 : Int32) (x4 : Int32) (s : sv_S) (h_a0 : ss_K a0 = 21) (o_a0 : 64 ≤ a0) (l_a0 : a0 < 243 + s.2.2.2.2.1), sv_V E m_JA_fillL (d + 0) ss_v 6 [(0, sv_r E a0), (1, .long y1), (3, .int x3), (4, .int x4)] [] (ss_e s) (F_JA_fillL_b6 n a0 y1 x3 x4 s) := by
  intro n
  induction n with
  | zero => intro a0 y1 x3 x4 s h_a0 o_a0 l_a0; exact sv_none
  | succ n ih =>
    intro a0 y1 x3 x4 s h_a0 o_a0 l_a0
    unfold F_JA_fillL_b6
    refine sv_iload_n (pc := 6) 2 (sv_d k_JA_fillL 5 rfl) rfl rfl ?_
    refine sv_iload (pc := 7) 3 (sv_d k_JA_fillL 6 rfl) rfl ?_
    refine sv_icmp_ge (pc := 9) (tgt := 22) (sv_d k_JA_fillL 7 rfl) (by decide) ?_ ?_
    · exact sv_retv (pc := 22) (sv_d k_JA_fillL 14 rfl) rfl rfl
    · refine sv_aload_n (pc := 12) 0 (sv_d k_JA_fillL 8 rfl) rfl rfl ?_
      refine sv_iload_n (pc := 13) 2 (sv_d k_JA_fillL 9 rfl) rfl rfl ?_
      refine sv_lload_n (pc := 14) 1 (sv_d k_JA_fillL 10 rfl) rfl rfl ?_
      refine ss_last (pc := 15) (n := (ss_N s.2.2.2.1 a0)) (sv_d k_JA_fillL 11 rfl) h_a0 o_a0 l_a0 rfl (ss_lets (fun s2 e_s2 => ?_))
      have l_a0 : a0 < 243 + s2.2.2.2.2.1 := by rw [e_s2]; exact l_a0
      refine ss_letr (fun v3 e_v3 => ?_)
      refine sv_iinc (pc := 16) (v := v3) (lv' := [(3, .int v3), (0, sv_r E a0), (1, .long y1), (4, .int x4)]) (sv_d k_JA_fillL 12 rfl) (n := 2) rfl (by rw [e_v3]; rfl) (by decide) rfl ?_
      refine sv_goto (pc := 19) (tgt := 6) (sv_d k_JA_fillL 13 rfl) (by decide) ?_
      exact sv_loc [1, 2, 0, 3] rfl (ih a0 y1 v3 x4 s2 h_a0 o_a0 l_a0)
def F_JA_fillL (a0 : Nat) (y1 : Int64) (s : sv_S) : Option (sv_S) :=
  ss_let (Int32.ofNat (ss_N s.2.2.2.1 a0)) fun v1 =>
  F_JA_fillL_b6 ss_F a0 y1 (0 : Int32) v1 s
theorem V_JA_fillL (E : sv_E) (d : Nat) (a0 : Nat) (y1 : Int64) (s : sv_S) (h_a0 : ss_K a0 = 21) (o_a0 : 64 ≤ a0) (l_a0 : a0 < 243 + s.2.2.2.2.1) : sv_V E m_JA_fillL (d + 0) ss_v 0 (lv_args 0 [sv_r E a0, .long y1]) [] (ss_e s) (F_JA_fillL a0 y1 s) := by
  show sv_V E m_JA_fillL (d + 0) ss_v 0 [(0, sv_r E a0), (1, .long y1)] [] (ss_e s) _
  unfold F_JA_fillL
  refine sv_iconst (pc := 0) (v := (0 : Int32)) (sv_d k_JA_fillL 0 rfl) (by decide) ?_
  refine sv_istore_n (pc := 1) (lv' := [(3, .int (0 : Int32)), (0, sv_r E a0), (1, .long y1)]) (sv_d k_JA_fillL 1 rfl) rfl (by decide) rfl ?_
  refine sv_aload_n (pc := 2) 1 (sv_d k_JA_fillL 2 rfl) rfl rfl ?_
  refine ss_alen (pc := 3) (v := (Int32.ofNat (ss_N s.2.2.2.1 a0))) (sv_d k_JA_fillL 3 rfl) h_a0 (by decide) (by decide) l_a0 rfl ?_
  refine ss_top (fun v1 e_v1 => ?_)
  refine sv_istore (pc := 4) (lv' := [(4, .int v1), (3, .int (0 : Int32)), (0, sv_r E a0), (1, .long y1)]) (sv_d k_JA_fillL 4 rfl) (by decide) rfl ?_
  exact sv_loc [2, 3, 1, 0] rfl (V_JA_fillL_b6 E d ss_F a0 y1 (0 : Int32) v1 s h_a0 o_a0 l_a0)
