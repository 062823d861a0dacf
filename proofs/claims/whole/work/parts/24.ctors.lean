/-! JM_min -/
def FD_JM_min (x0 : Int32) (x1 : Int32) (s : sv_H) : Option (Int32 × sv_H) :=
  if x1 < x0 then
    some (x1, s)
  else
  some (x0, s)
theorem VD_JM_min (E : sv_E) (d : Nat) (x0 : Int32) (x1 : Int32) (s : sv_H) : sv_V E m_JM_min (d + 0) sd_i 0 (lv_args 0 [.int x0, .int x1]) [] s (FD_JM_min x0 x1 s) := by
  show sv_V E m_JM_min (d + 0) sd_i 0 [(0, .int x0), (1, .int x1)] [] s _
  unfold FD_JM_min
  refine sv_iload_n (pc := 0) 0 (sv_d k_JM_min 0 rfl) rfl rfl ?_
  refine sv_iload_n (pc := 1) 1 (sv_d k_JM_min 1 rfl) rfl rfl ?_
  refine sv_icmp_gt (pc := 2) (tgt := 9) (sv_d k_JM_min 2 rfl) (by decide) ?_ ?_
  · refine sv_iload_n (pc := 9) 1 (sv_d k_JM_min 5 rfl) rfl rfl ?_
    exact sv_ret (pc := 10) (sv_d k_JM_min 6 rfl) ⟨_, rfl, rfl⟩ rfl
  · refine sv_iload_n (pc := 5) 0 (sv_d k_JM_min 3 rfl) rfl rfl ?_
    refine sv_goto (pc := 6) (tgt := 10) (sv_d k_JM_min 4 rfl) (by decide) ?_
    exact sv_ret (pc := 10) (sv_d k_JM_min 6 rfl) ⟨_, rfl, rfl⟩ rfl
/-! JA_fillI -/
def FD_JA_fillI_b5 : Nat → Nat → Int32 → Int32 → Int32 → sv_H → Option (sv_H)
  | 0 => fun _ _ _ _ _ => none
  | n + 1 => fun a0 x1 x2 x3 s =>
    if x3 ≤ x2 then
      some s
    else
    if sd_ok s a0 20 = true then
      if sv_ib x2 (sv_ln s a0) = true then
        ss_let (sv_setI s a0 x2.toNatClampNeg x1) fun s4 =>
        ss_let (x2 + (1 : Int32)) fun v5 =>
        FD_JA_fillI_b5  n a0 x1 v5 x3 s4
      else none
    else none
theorem VD_JA_fillI_b5 (E : sv_E) (d : Nat) : ∀ (n : Nat) (a0 : Nat) (x1 : Int32) (x2 : Int32) (x3 : Int32) (s : sv_H), sv_V E m_JA_fillI (d + 0) sd_v 5 [(0, sv_r E a0), (1, .int x1), (2, .int x2), (3, .int x3)] [] s (FD_JA_fillI_b5 n a0 x1 x2 x3 s) := by
  intro n
  induction n with
  | zero => intro a0 x1 x2 x3 s; exact sv_none
  | succ n ih =>
    intro a0 x1 x2 x3 s
    unfold FD_JA_fillI_b5
    refine sv_iload_n (pc := 5) 2 (sv_d k_JA_fillI 5 rfl) rfl rfl ?_
    refine sv_iload_n (pc := 6) 3 (sv_d k_JA_fillI 6 rfl) rfl rfl ?_
    refine sv_icmp_ge (pc := 7) (tgt := 20) (sv_d k_JA_fillI 7 rfl) (by decide) ?_ ?_
    · exact sv_retv (pc := 20) (sv_d k_JA_fillI 14 rfl) rfl rfl
    · refine sv_aload_n (pc := 10) 0 (sv_d k_JA_fillI 8 rfl) rfl rfl ?_
      refine sv_iload_n (pc := 11) 2 (sv_d k_JA_fillI 9 rfl) rfl rfl ?_
      refine sv_iload_n (pc := 12) 1 (sv_d k_JA_fillI 10 rfl) rfl rfl ?_
      refine sd_gd (fun k_k3 o_k3 l_k3 => ?_)
      refine ss_ib (fun hin => sv_iast (pc := 13) (sv_d k_JA_fillI 11 rfl) k_k3 o_k3 l_k3 hin (sd_lets (fun s4 e_s4 => ?_)))
      refine ss_letr (fun v5 e_v5 => ?_)
      refine sv_iinc (pc := 14) (v := v5) (lv' := [(2, .int v5), (0, sv_r E a0), (1, .int x1), (3, .int x3)]) (sv_d k_JA_fillI 12 rfl) (n := 2) rfl (by rw [e_v5]; rfl) (by decide) rfl ?_
      refine sv_goto (pc := 17) (tgt := 5) (sv_d k_JA_fillI 13 rfl) (by decide) ?_
      exact sv_loc [1, 2, 0, 3] rfl (ih a0 x1 v5 x3 s4)
def FD_JA_fillI (a0 : Nat) (x1 : Int32) (s : sv_H) : Option (sv_H) :=
  if sd_ok s a0 20 = true then
    ss_let (Int32.ofNat (sv_ln s a0)) fun v2 =>
    FD_JA_fillI_b5 ss_F a0 x1 (0 : Int32) v2 s
  else none
theorem VD_JA_fillI (E : sv_E) (d : Nat) (a0 : Nat) (x1 : Int32) (s : sv_H) : sv_V E m_JA_fillI (d + 0) sd_v 0 (lv_args 0 [sv_r E a0, .int x1]) [] s (FD_JA_fillI a0 x1 s) := by
  show sv_V E m_JA_fillI (d + 0) sd_v 0 [(0, sv_r E a0), (1, .int x1)] [] s _
  unfold FD_JA_fillI
  refine sv_iconst (pc := 0) (v := (0 : Int32)) (sv_d k_JA_fillI 0 rfl) (by decide) ?_
  refine sv_istore_n (pc := 1) (lv' := [(2, .int (0 : Int32)), (0, sv_r E a0), (1, .int x1)]) (sv_d k_JA_fillI 1 rfl) rfl (by decide) rfl ?_
  refine sv_aload_n (pc := 2) 1 (sv_d k_JA_fillI 2 rfl) rfl rfl ?_
  refine sd_gd (fun k_k1 o_k1 l_k1 => ?_)
  refine sv_alen (pc := 3) (sv_d k_JA_fillI 3 rfl) k_k1 (by decide) (by decide) l_k1 rfl ?_
  refine ss_top (fun v2 e_v2 => ?_)
  refine sv_istore_n (pc := 4) (lv' := [(3, .int v2), (2, .int (0 : Int32)), (0, sv_r E a0), (1, .int x1)]) (sv_d k_JA_fillI 4 rfl) rfl (by decide) rfl ?_
  exact sv_loc [2, 3, 1, 0] rfl (VD_JA_fillI_b5 E d ss_F a0 x1 (0 : Int32) v2 s)
/-! Lw_init -/
abbrev m_Lw_init : sv_M := (yX2_init, cX2_init, 7, none)
def t_Lw_init : List (Nat × Instr × Nat) := [(0, .aload_n 0, 1), (1, .invokespecial 1, 3), (4, .aload_n 0, 1), (5, .iload_n 1, 1), (6, .putfield 7, 3), (9, .aload_n 0, 1), (10, .iload_n 2, 1), (11, .putfield 13, 3), (14, .aload_n 0, 1), (15, .iload_n 3, 1), (16, .putfield 16, 3), (19, .aload_n 0, 1), (20, .aload 4, 2), (22, .putfield 19, 3), (25, .aload_n 0, 1), (26, .aload 5, 2), (28, .putfield 23, 3), (31, .aload_n 0, 1), (32, .aload 6, 2), (34, .putfield 26, 3), (37, .return_, 1)]
theorem k_Lw_init : sv_tk m_Lw_init.2.1 t_Lw_init := by decide +kernel
theorem g_Lw_init : sv_G m_Lw_init 6 := ⟨by decide +kernel, sv_in 202 (by decide +kernel) rfl, sv_in 95 (by decide +kernel) rfl, ⟨by decide, by decide⟩, by decide +kernel, by decide⟩
theorem in_Lw_init : Cond.instanceMethod m_Lw_init.1 ∈ sv_T := sv_in 201 (by decide +kernel) rfl
def FD_Lw_init (a0 : Nat) (x1 : Int32) (x2 : Int32) (x3 : Int32) (a4 : Nat) (a5 : Nat) (a6 : Nat) (s : sv_H) : Option (sv_H) :=
  if sd_ok s a0 2 = true then
    ss_let (sv_setI s a0 0 x1) fun s3 =>
    if sd_ok s3 a0 2 = true then
      ss_let (sv_setI s3 a0 1 x2) fun s5 =>
      if sd_ok s5 a0 2 = true then
        ss_let (sv_setI s5 a0 2 x3) fun s7 =>
        if sd_ok s7 a0 2 = true then
          ss_let (sv_setR s7 a0 3 (some a4)) fun s9 =>
          if sd_ok s9 a0 2 = true then
            ss_let (sv_setR s9 a0 4 (some a5)) fun s11 =>
            if sd_ok s11 a0 2 = true then
              ss_let (sv_setR s11 a0 5 (some a6)) fun s13 =>
              some s13
            else none
          else none
        else none
      else none
    else none
  else none
theorem VD_Lw_init (E : sv_E) (d : Nat) (a0 : Nat) (x1 : Int32) (x2 : Int32) (x3 : Int32) (a4 : Nat) (a5 : Nat) (a6 : Nat) (s : sv_H) : sv_V E m_Lw_init (d + 1) sd_v 0 (lv_args 0 [sv_r E a0, .int x1, .int x2, .int x3, sv_r E a4, sv_r E a5, sv_r E a6]) [] s (FD_Lw_init a0 x1 x2 x3 a4 a5 a6 s) := by
  show sv_V E m_Lw_init (d + 1) sd_v 0 [(0, sv_r E a0), (1, .int x1), (2, .int x2), (3, .int x3), (4, sv_r E a4), (5, sv_r E a5), (6, sv_r E a6)] [] s _
  unfold FD_Lw_init
  refine sv_aload_n (pc := 0) 0 (sv_d k_Lw_init 0 rfl) rfl rfl ?_
  refine sv_objInit (pc := 1) (sv_d k_Lw_init 1 rfl) w203 (Nat.le_of_ble_eq_true rfl) ?_
  refine sv_aload_n (pc := 4) 0 (sv_d k_Lw_init 2 rfl) rfl rfl ?_
  refine sv_iload_n (pc := 5) 1 (sv_d k_Lw_init 3 rfl) rfl rfl ?_
  refine sd_gd (fun k_k2 o_k2 l_k2 => ?_)
  refine sd_putIF (pc := 6) 0 (sv_d k_Lw_init 4 rfl) cf2 (by decide) rfl w204 rfl rfl k_k2 o_k2 l_k2 rfl rfl (fun _ => rfl) (sd_lets (fun s3 e_s3 => ?_))
  refine sv_aload_n (pc := 9) 0 (sv_d k_Lw_init 5 rfl) rfl rfl ?_
  refine sv_iload_n (pc := 10) 2 (sv_d k_Lw_init 6 rfl) rfl rfl ?_
  refine sd_gd (fun k_k4 o_k4 l_k4 => ?_)
  refine sd_putIF (pc := 11) 1 (sv_d k_Lw_init 7 rfl) cf2 (by decide) rfl w206 rfl rfl k_k4 o_k4 l_k4 rfl rfl (fun _ => rfl) (sd_lets (fun s5 e_s5 => ?_))
  refine sv_aload_n (pc := 14) 0 (sv_d k_Lw_init 8 rfl) rfl rfl ?_
  refine sv_iload_n (pc := 15) 3 (sv_d k_Lw_init 9 rfl) rfl rfl ?_
  refine sd_gd (fun k_k6 o_k6 l_k6 => ?_)
  refine sd_putIF (pc := 16) 2 (sv_d k_Lw_init 10 rfl) cf2 (by decide) rfl w208 rfl rfl k_k6 o_k6 l_k6 rfl rfl (fun _ => rfl) (sd_lets (fun s7 e_s7 => ?_))
  refine sv_aload_n (pc := 19) 0 (sv_d k_Lw_init 11 rfl) rfl rfl ?_
  refine sv_aload (pc := 20) 4 (sv_d k_Lw_init 12 rfl) rfl ?_
  refine sd_gd (fun k_k8 o_k8 l_k8 => ?_)
  refine sd_putRF (pc := 22) 3 (sv_d k_Lw_init 13 rfl) cf2 (by decide) rfl w210 rfl rfl k_k8 o_k8 l_k8  (fun _ => rfl) (sd_lets (fun s9 e_s9 => ?_))
  refine sv_aload_n (pc := 25) 0 (sv_d k_Lw_init 14 rfl) rfl rfl ?_
  refine sv_aload (pc := 26) 5 (sv_d k_Lw_init 15 rfl) rfl ?_
  refine sd_gd (fun k_k10 o_k10 l_k10 => ?_)
  refine sd_putRF (pc := 28) 4 (sv_d k_Lw_init 16 rfl) cf2 (by decide) rfl w212 rfl rfl k_k10 o_k10 l_k10  (fun _ => rfl) (sd_lets (fun s11 e_s11 => ?_))
  refine sv_aload_n (pc := 31) 0 (sv_d k_Lw_init 17 rfl) rfl rfl ?_
  refine sv_aload (pc := 32) 6 (sv_d k_Lw_init 18 rfl) rfl ?_
  refine sd_gd (fun k_k12 o_k12 l_k12 => ?_)
  refine sd_putRF (pc := 34) 5 (sv_d k_Lw_init 19 rfl) cf2 (by decide) rfl w214 rfl rfl k_k12 o_k12 l_k12  (fun _ => rfl) (sd_lets (fun s13 e_s13 => ?_))
  exact sv_retv (pc := 37) (sv_d k_Lw_init 20 rfl) rfl rfl
/-! Ra_init -/
abbrev m_Ra_init : sv_M := (yX5_init, cX5_init, 1, none)
def t_Ra_init : List (Nat × Instr × Nat) := [(0, .aload_n 0, 1), (1, .invokespecial 3, 3), (4, .return_, 1)]
theorem k_Ra_init : sv_tk m_Ra_init.2.1 t_Ra_init := by decide +kernel
theorem g_Ra_init : sv_G m_Ra_init 0 := ⟨by decide +kernel, sv_in 257 (by decide +kernel) rfl, sv_in 97 (by decide +kernel) rfl, ⟨by decide, by decide⟩, by decide +kernel, by decide⟩
theorem in_Ra_init : Cond.instanceMethod m_Ra_init.1 ∈ sv_T := sv_in 256 (by decide +kernel) rfl
def FD_Ra_init (a0 : Nat) (s : sv_H) : Option (sv_H) :=
  some s
theorem VD_Ra_init (E : sv_E) (d : Nat) (a0 : Nat) (s : sv_H) : sv_V E m_Ra_init (d + 1) sd_v 0 (lv_args 0 [sv_r E a0]) [] s (FD_Ra_init a0 s) := by
  show sv_V E m_Ra_init (d + 1) sd_v 0 [(0, sv_r E a0)] [] s _
  unfold FD_Ra_init
  refine sv_aload_n (pc := 0) 0 (sv_d k_Ra_init 0 rfl) rfl rfl ?_
  refine sv_objInit (pc := 1) (sv_d k_Ra_init 1 rfl) w258 (Nat.le_of_ble_eq_true rfl) ?_
  exact sv_retv (pc := 4) (sv_d k_Ra_init 2 rfl) rfl rfl
/-! Lt_init -/
abbrev m_Lt_init : sv_M := (yX3_init, cX3_init, 1, none)
def t_Lt_init : List (Nat × Instr × Nat) := [(0, .aload_n 0, 1), (1, .invokespecial 3, 3), (4, .aload_n 0, 1), (5, .sipush 140, 3), (8, .newarray .byte, 2), (10, .putfield 11, 3), (13, .aload_n 0, 1), (14, .bipush 40, 2), (16, .newarray .int, 2), (18, .putfield 15, 3), (21, .aload_n 0, 1), (22, .sipush 140, 3), (25, .newarray .int, 2), (27, .putfield 19, 3), (30, .return_, 1)]
theorem k_Lt_init : sv_tk m_Lt_init.2.1 t_Lt_init := by decide +kernel
theorem g_Lt_init : sv_G m_Lt_init 0 := ⟨by decide +kernel, sv_in 153 (by decide +kernel) rfl, sv_in 93 (by decide +kernel) rfl, ⟨by decide, by decide⟩, by decide +kernel, by decide⟩
theorem in_Lt_init : Cond.instanceMethod m_Lt_init.1 ∈ sv_T := sv_in 152 (by decide +kernel) rfl
def FD_Lt_init (a0 : Nat) (s : sv_H) : Option (sv_H) :=
  if sd_nb (140 : Int32) = true then
    ss_let (sv_nx s) fun w4 =>
    ss_let (sv_mk s 22 (140 : Int32).toNatClampNeg (140 : Int32).toNatClampNeg) fun s3 =>
    if sd_ok s3 a0 3 = true then
      ss_let (sv_setR s3 a0 0 (some w4)) fun s6 =>
      if sd_nb (40 : Int32) = true then
        ss_let (sv_nx s6) fun w9 =>
        ss_let (sv_mk s6 20 (40 : Int32).toNatClampNeg (40 : Int32).toNatClampNeg) fun s8 =>
        if sd_ok s8 a0 3 = true then
          ss_let (sv_setR s8 a0 1 (some w9)) fun s11 =>
          if sd_nb (140 : Int32) = true then
            ss_let (sv_nx s11) fun w14 =>
            ss_let (sv_mk s11 20 (140 : Int32).toNatClampNeg (140 : Int32).toNatClampNeg) fun s13 =>
            if sd_ok s13 a0 3 = true then
              ss_let (sv_setR s13 a0 2 (some w14)) fun s16 =>
              some s16
            else none
          else none
        else none
      else none
    else none
  else none
theorem VD_Lt_init (E : sv_E) (d : Nat) (a0 : Nat) (s : sv_H) : sv_V E m_Lt_init (d + 1) sd_v 0 (lv_args 0 [sv_r E a0]) [] s (FD_Lt_init a0 s) := by
  show sv_V E m_Lt_init (d + 1) sd_v 0 [(0, sv_r E a0)] [] s _
  unfold FD_Lt_init
  refine sv_aload_n (pc := 0) 0 (sv_d k_Lt_init 0 rfl) rfl rfl ?_
  refine sv_objInit (pc := 1) (sv_d k_Lt_init 1 rfl) w154 (Nat.le_of_ble_eq_true rfl) ?_
  refine sv_aload_n (pc := 4) 0 (sv_d k_Lt_init 2 rfl) rfl rfl ?_
  refine sv_sipush (pc := 5) (v := (140 : Int32)) (sv_d k_Lt_init 3 rfl) (by decide) ?_
  refine ss_grd (fun hnb => ?_)
  refine ss_letr (fun w4 e_w4 => ?_)
  refine sv_newa (pc := 8) (kk := 22) (sv_d k_Lt_init 4 rfl) rfl wa22 hnb (sd_lets (fun s3 e_s3 => ?_))
  rw [← e_w4]
  refine sd_gd (fun k_k5 o_k5 l_k5 => ?_)
  refine sd_putRF (pc := 10) 0 (sv_d k_Lt_init 5 rfl) cf3 (by decide) rfl w155 rfl rfl k_k5 o_k5 l_k5  (fun _ => rfl) (sd_lets (fun s6 e_s6 => ?_))
  refine sv_aload_n (pc := 13) 0 (sv_d k_Lt_init 6 rfl) rfl rfl ?_
  refine sv_bipush (pc := 14) (v := (40 : Int32)) (sv_d k_Lt_init 7 rfl) (by decide) ?_
  refine ss_grd (fun hnb => ?_)
  refine ss_letr (fun w9 e_w9 => ?_)
  refine sv_newa (pc := 16) (kk := 20) (sv_d k_Lt_init 8 rfl) rfl wa20 hnb (sd_lets (fun s8 e_s8 => ?_))
  rw [← e_w9]
  refine sd_gd (fun k_k10 o_k10 l_k10 => ?_)
  refine sd_putRF (pc := 18) 1 (sv_d k_Lt_init 9 rfl) cf3 (by decide) rfl w156 rfl rfl k_k10 o_k10 l_k10  (fun _ => rfl) (sd_lets (fun s11 e_s11 => ?_))
  refine sv_aload_n (pc := 21) 0 (sv_d k_Lt_init 10 rfl) rfl rfl ?_
  refine sv_sipush (pc := 22) (v := (140 : Int32)) (sv_d k_Lt_init 11 rfl) (by decide) ?_
  refine ss_grd (fun hnb => ?_)
  refine ss_letr (fun w14 e_w14 => ?_)
  refine sv_newa (pc := 25) (kk := 20) (sv_d k_Lt_init 12 rfl) rfl wa20 hnb (sd_lets (fun s13 e_s13 => ?_))
  rw [← e_w14]
  refine sd_gd (fun k_k15 o_k15 l_k15 => ?_)
  refine sd_putRF (pc := 27) 2 (sv_d k_Lt_init 13 rfl) cf3 (by decide) rfl w158 rfl rfl k_k15 o_k15 l_k15  (fun _ => rfl) (sd_lets (fun s16 e_s16 => ?_))
  exact sv_retv (pc := 30) (sv_d k_Lt_init 14 rfl) rfl rfl
/-! Ls_init -/
abbrev m_Ls_init : sv_M := (yX4_init, cX4_init, 3, none)
def t_Ls_init : List (Nat × Instr × Nat) := [(0, .aload_n 0, 1), (1, .invokespecial 3, 3), (4, .aload_n 0, 1), (5, .bipush 16, 2), (7, .anewarray 11, 3), (10, .putfield 13, 3), (13, .aload_n 0, 1), (14, .bipush 7, 2), (16, .anewarray 11, 3), (19, .putfield 17, 3), (22, .bipush 40, 2), (24, .newarray .int, 2), (26, .astore_n 1, 1), (27, .aload_n 1, 1), (28, .iconst (-1), 1), (29, .invokestatic 20, 3), (32, .aload_n 0, 1), (33, .new 11, 3), (36, .dup, 1), (37, .iconst (-1), 1), (38, .iconst (-1), 1), (39, .iconst (-1), 1), (40, .aload_n 1, 1), (41, .iconst 0, 1), (42, .newarray .int, 2), (44, .iconst 0, 1), (45, .newarray .int, 2), (47, .invokespecial 26, 3), (50, .putfield 29, 3), (53, .iconst 0, 1), (54, .istore_n 2, 1), (55, .iload_n 2, 1), (56, .bipush 16, 2), (58, .if_icmp .ge 19, 3), (61, .aload_n 0, 1), (62, .getfield 13, 3), (65, .iload_n 2, 1), (66, .aload_n 0, 1), (67, .getfield 29, 3), (70, .aastore, 1), (71, .iinc 2 1, 3), (74, .goto (-19), 3), (77, .iconst 0, 1), (78, .istore_n 2, 1), (79, .iload_n 2, 1), (80, .bipush 6, 2), (82, .if_icmp .gt 19, 3), (85, .aload_n 0, 1), (86, .getfield 17, 3), (89, .iload_n 2, 1), (90, .aload_n 0, 1), (91, .getfield 29, 3), (94, .aastore, 1), (95, .iinc 2 1, 3), (98, .goto (-19), 3), (101, .aload_n 0, 1), (102, .iconst (-1), 1), (103, .putfield 33, 3), (106, .return_, 1)]
theorem k_Ls_init : sv_tk m_Ls_init.2.1 t_Ls_init := by decide +kernel
theorem g_Ls_init : sv_G m_Ls_init 0 := ⟨by decide +kernel, sv_in 194 (by decide +kernel) rfl, sv_in 94 (by decide +kernel) rfl, ⟨by decide, by decide⟩, by decide +kernel, by decide⟩
theorem in_Ls_init : Cond.instanceMethod m_Ls_init.1 ∈ sv_T := sv_in 193 (by decide +kernel) rfl
def FD_Ls_init_b79 : Nat → Nat → Int32 → sv_H → Option (sv_H)
  | 0 => fun _ _ _ => none
  | n + 1 => fun a0 x2 s =>
    if (6 : Int32) < x2 then
      if sd_ok s a0 4 = true then
        ss_let (sv_setI s a0 3 (-1 : Int32)) fun s31 =>
        some s31
      else none
    else
    if sd_ok s a0 4 = true then
      (s.2.2.1 a0 1).bind fun w33 =>
      if sd_ok s a0 4 = true then
        (s.2.2.1 a0 2).bind fun w35 =>
        if sd_ok s w33 25 = true then
          if sd_ok s w35 2 = true then
            if sv_ib x2 (sv_ln s w33) = true then
              ss_let (sv_setR s w33 x2.toNatClampNeg (some w35)) fun s37 =>
              ss_let (x2 + (1 : Int32)) fun v38 =>
              FD_Ls_init_b79  n a0 v38 s37
            else none
          else none
        else none
      else none
    else none
theorem VD_Ls_init_b79 (E : sv_E) (d : Nat) : ∀ (n : Nat) (a0 : Nat) (x2 : Int32) (s : sv_H), sv_V E m_Ls_init (d + 2) sd_v 79 [(0, sv_r E a0), (2, .int x2)] [] s (FD_Ls_init_b79 n a0 x2 s) := by
  intro n
  induction n with
  | zero => intro a0 x2 s; exact sv_none
  | succ n ih =>
    intro a0 x2 s
    unfold FD_Ls_init_b79
    refine sv_iload_n (pc := 79) 1 (sv_d k_Ls_init 44 rfl) rfl rfl ?_
    refine sv_bipush (pc := 80) (v := (6 : Int32)) (sv_d k_Ls_init 45 rfl) (by decide) ?_
    refine sv_icmp_gt (pc := 82) (tgt := 101) (sv_d k_Ls_init 46 rfl) (by decide) ?_ ?_
    · refine sv_aload_n (pc := 101) 0 (sv_d k_Ls_init 55 rfl) rfl rfl ?_
      refine sv_iconst (pc := 102) (v := (-1 : Int32)) (sv_d k_Ls_init 56 rfl) (by decide) ?_
      refine sd_gd (fun k_k30 o_k30 l_k30 => ?_)
      refine sd_putI (pc := 103) 3 (sv_d k_Ls_init 57 rfl) cf4 (by decide) rfl w232 k_k30 o_k30 l_k30 rfl rfl (fun _ => rfl) (sd_lets (fun s31 e_s31 => ?_))
      exact sv_retv (pc := 106) (sv_d k_Ls_init 58 rfl) rfl rfl
    · refine sv_aload_n (pc := 85) 0 (sv_d k_Ls_init 47 rfl) rfl rfl ?_
      refine sd_gd (fun k_k32 o_k32 l_k32 => ?_)
      refine sd_getR (pc := 86) 1 (sv_d k_Ls_init 48 rfl) cf4 (by decide) w230 k_k32 l_k32 (fun _ => rfl) (fun w33 => ?_)
      refine sv_iload_n (pc := 89) 1 (sv_d k_Ls_init 49 rfl) rfl rfl ?_
      refine sv_aload_n (pc := 90) 0 (sv_d k_Ls_init 50 rfl) rfl rfl ?_
      refine sd_gd (fun k_k34 o_k34 l_k34 => ?_)
      refine sd_getR (pc := 91) 2 (sv_d k_Ls_init 51 rfl) cf4 (by decide) w231 k_k34 l_k34 (fun _ => rfl) (fun w35 => ?_)
      refine sd_gd (fun k_k36 o_k36 l_k36 => ?_)
      refine sd_gd (fun k_k39 o_k39 l_k39 => ?_)
      refine ss_ib (fun hin => sv_aast (pc := 94) (ci := 2) (sv_d k_Ls_init 52 rfl) k_k36 (by decide) (by decide) rfl o_k36 l_k36 hin cf2 k_k39 l_k39 (sd_lets (fun s37 e_s37 => ?_)))
      refine ss_letr (fun v38 e_v38 => ?_)
      refine sv_iinc (pc := 95) (v := v38) (lv' := [(2, .int v38), (0, sv_r E a0)]) (sv_d k_Ls_init 53 rfl) (n := 1) rfl (by rw [e_v38]; rfl) (by decide) rfl ?_
      refine sv_goto (pc := 98) (tgt := 79) (sv_d k_Ls_init 54 rfl) (by decide) ?_
      exact sv_loc [1, 0] rfl (ih a0 v38 s37)
def FD_Ls_init_b55 : Nat → Nat → Int32 → sv_H → Option (sv_H)
  | 0 => fun _ _ _ => none
  | n + 1 => fun a0 x2 s =>
    if (16 : Int32) ≤ x2 then
      FD_Ls_init_b79 ss_F a0 (0 : Int32) s
    else
    if sd_ok s a0 4 = true then
      (s.2.2.1 a0 0).bind fun w41 =>
      if sd_ok s a0 4 = true then
        (s.2.2.1 a0 2).bind fun w43 =>
        if sd_ok s w41 25 = true then
          if sd_ok s w43 2 = true then
            if sv_ib x2 (sv_ln s w41) = true then
              ss_let (sv_setR s w41 x2.toNatClampNeg (some w43)) fun s45 =>
              ss_let (x2 + (1 : Int32)) fun v46 =>
              FD_Ls_init_b55  n a0 v46 s45
            else none
          else none
        else none
      else none
    else none
theorem VD_Ls_init_b55 (E : sv_E) (d : Nat) : ∀ (n : Nat) (a0 : Nat) (x2 : Int32) (s : sv_H), sv_V E m_Ls_init (d + 2) sd_v 55 [(0, sv_r E a0), (2, .int x2)] [] s (FD_Ls_init_b55 n a0 x2 s) := by
  intro n
  induction n with
  | zero => intro a0 x2 s; exact sv_none
  | succ n ih =>
    intro a0 x2 s
    unfold FD_Ls_init_b55
    refine sv_iload_n (pc := 55) 1 (sv_d k_Ls_init 31 rfl) rfl rfl ?_
    refine sv_bipush (pc := 56) (v := (16 : Int32)) (sv_d k_Ls_init 32 rfl) (by decide) ?_
    refine sv_icmp_ge (pc := 58) (tgt := 77) (sv_d k_Ls_init 33 rfl) (by decide) ?_ ?_
    · refine sv_iconst (pc := 77) (v := (0 : Int32)) (sv_d k_Ls_init 42 rfl) (by decide) ?_
      refine sv_istore_n (pc := 78) (lv' := [(2, .int (0 : Int32)), (0, sv_r E a0)]) (sv_d k_Ls_init 43 rfl) rfl (by decide) rfl ?_
      exact sv_loc [1, 0] rfl (VD_Ls_init_b79 E d ss_F a0 (0 : Int32) s)
    · refine sv_aload_n (pc := 61) 0 (sv_d k_Ls_init 34 rfl) rfl rfl ?_
      refine sd_gd (fun k_k40 o_k40 l_k40 => ?_)
      refine sd_getR (pc := 62) 0 (sv_d k_Ls_init 35 rfl) cf4 (by decide) w229 k_k40 l_k40 (fun _ => rfl) (fun w41 => ?_)
      refine sv_iload_n (pc := 65) 1 (sv_d k_Ls_init 36 rfl) rfl rfl ?_
      refine sv_aload_n (pc := 66) 0 (sv_d k_Ls_init 37 rfl) rfl rfl ?_
      refine sd_gd (fun k_k42 o_k42 l_k42 => ?_)
      refine sd_getR (pc := 67) 2 (sv_d k_Ls_init 38 rfl) cf4 (by decide) w231 k_k42 l_k42 (fun _ => rfl) (fun w43 => ?_)
      refine sd_gd (fun k_k44 o_k44 l_k44 => ?_)
      refine sd_gd (fun k_k47 o_k47 l_k47 => ?_)
      refine ss_ib (fun hin => sv_aast (pc := 70) (ci := 2) (sv_d k_Ls_init 39 rfl) k_k44 (by decide) (by decide) rfl o_k44 l_k44 hin cf2 k_k47 l_k47 (sd_lets (fun s45 e_s45 => ?_)))
      refine ss_letr (fun v46 e_v46 => ?_)
      refine sv_iinc (pc := 71) (v := v46) (lv' := [(2, .int v46), (0, sv_r E a0)]) (sv_d k_Ls_init 40 rfl) (n := 1) rfl (by rw [e_v46]; rfl) (by decide) rfl ?_
      refine sv_goto (pc := 74) (tgt := 55) (sv_d k_Ls_init 41 rfl) (by decide) ?_
      exact sv_loc [1, 0] rfl (ih a0 v46 s45)
def FD_Ls_init (a0 : Nat) (s : sv_H) : Option (sv_H) :=
  if sd_nb (16 : Int32) = true then
    ss_let (sv_nx s) fun w4 =>
    ss_let (sv_mk s 25 (16 : Int32).toNatClampNeg (16 : Int32).toNatClampNeg) fun s3 =>
    if sd_ok s3 a0 4 = true then
      ss_let (sv_setR s3 a0 0 (some w4)) fun s6 =>
      if sd_nb (7 : Int32) = true then
        ss_let (sv_nx s6) fun w9 =>
        ss_let (sv_mk s6 25 (7 : Int32).toNatClampNeg (7 : Int32).toNatClampNeg) fun s8 =>
        if sd_ok s8 a0 4 = true then
          ss_let (sv_setR s8 a0 1 (some w9)) fun s11 =>
          if sd_nb (40 : Int32) = true then
            ss_let (sv_nx s11) fun w14 =>
            ss_let (sv_mk s11 20 (40 : Int32).toNatClampNeg (40 : Int32).toNatClampNeg) fun s13 =>
            (FD_JA_fillI w14 (-1 : Int32) s13).bind fun r16 =>
            ss_let (sv_nx r16) fun w19 =>
            ss_let (sv_mk r16 2 0 6) fun s18 =>
            if sd_nb (0 : Int32) = true then
              ss_let (sv_nx s18) fun w22 =>
              ss_let (sv_mk s18 20 (0 : Int32).toNatClampNeg (0 : Int32).toNatClampNeg) fun s21 =>
              if sd_nb (0 : Int32) = true then
                ss_let (sv_nx s21) fun w25 =>
                ss_let (sv_mk s21 20 (0 : Int32).toNatClampNeg (0 : Int32).toNatClampNeg) fun s24 =>
                (FD_Lw_init w19 (-1 : Int32) (-1 : Int32) (-1 : Int32) w14 w22 w25 s24).bind fun r27 =>
                if sd_ok r27 a0 4 = true then
                  ss_let (sv_setR r27 a0 2 (some w19)) fun s29 =>
                  FD_Ls_init_b55 ss_F a0 (0 : Int32) s29
                else none
              else none
            else none
          else none
        else none
      else none
    else none
  else none
theorem VD_Ls_init (E : sv_E) (d : Nat) (a0 : Nat) (s : sv_H) : sv_V E m_Ls_init (d + 2) sd_v 0 (lv_args 0 [sv_r E a0]) [] s (FD_Ls_init a0 s) := by
  show sv_V E m_Ls_init (d + 2) sd_v 0 [(0, sv_r E a0)] [] s _
  unfold FD_Ls_init
  refine sv_aload_n (pc := 0) 0 (sv_d k_Ls_init 0 rfl) rfl rfl ?_
  refine sv_objInit (pc := 1) (sv_d k_Ls_init 1 rfl) w195 (Nat.le_of_ble_eq_true rfl) ?_
  refine sv_aload_n (pc := 4) 0 (sv_d k_Ls_init 2 rfl) rfl rfl ?_
  refine sv_bipush (pc := 5) (v := (16 : Int32)) (sv_d k_Ls_init 3 rfl) (by decide) ?_
  refine ss_grd (fun hnb => ?_)
  refine ss_letr (fun w4 e_w4 => ?_)
  refine sv_anew (pc := 7) (kk := 25) (sv_d k_Ls_init 4 rfl) rfl w196 wa25 hnb (sd_lets (fun s3 e_s3 => ?_))
  rw [← e_w4]
  refine sd_gd (fun k_k5 o_k5 l_k5 => ?_)
  refine sd_putRF (pc := 10) 0 (sv_d k_Ls_init 5 rfl) cf4 (by decide) rfl w229 rfl rfl k_k5 o_k5 l_k5  (fun _ => rfl) (sd_lets (fun s6 e_s6 => ?_))
  refine sv_aload_n (pc := 13) 0 (sv_d k_Ls_init 6 rfl) rfl rfl ?_
  refine sv_bipush (pc := 14) (v := (7 : Int32)) (sv_d k_Ls_init 7 rfl) (by decide) ?_
  refine ss_grd (fun hnb => ?_)
  refine ss_letr (fun w9 e_w9 => ?_)
  refine sv_anew (pc := 16) (kk := 25) (sv_d k_Ls_init 8 rfl) rfl w196 wa25 hnb (sd_lets (fun s8 e_s8 => ?_))
  rw [← e_w9]
  refine sd_gd (fun k_k10 o_k10 l_k10 => ?_)
  refine sd_putRF (pc := 19) 1 (sv_d k_Ls_init 9 rfl) cf4 (by decide) rfl w230 rfl rfl k_k10 o_k10 l_k10  (fun _ => rfl) (sd_lets (fun s11 e_s11 => ?_))
  refine sv_bipush (pc := 22) (v := (40 : Int32)) (sv_d k_Ls_init 10 rfl) (by decide) ?_
  refine ss_grd (fun hnb => ?_)
  refine ss_letr (fun w14 e_w14 => ?_)
  refine sv_newa (pc := 24) (kk := 20) (sv_d k_Ls_init 11 rfl) rfl wa20 hnb (sd_lets (fun s13 e_s13 => ?_))
  rw [← e_w14]
  refine sv_astore_n (pc := 26) (lv' := [(1, sv_r E w14), (0, sv_r E a0)]) (sv_d k_Ls_init 12 rfl) rfl (by decide) rfl ?_
  refine sv_aload_n (pc := 27) 0 (sv_d k_Ls_init 13 rfl) rfl rfl ?_
  refine sv_iconst (pc := 28) (v := (-1 : Int32)) (sv_d k_Ls_init 14 rfl) (by decide) ?_
  refine sv_callS (pc := 29) (ψ := sd_v) (As := [sv_r E w14, .int (-1 : Int32)]) (rest := []) (sv_d k_Ls_init 15 rfl) g_JA_fillI w198 st_JA_fillI rfl (Nat.le_of_ble_eq_true rfl) (VD_JA_fillI E (d + 1) w14 (-1 : Int32) s13) (Nat.le_of_ble_eq_true rfl) rfl (fun r16 => ?_)
  show sv_V E _ _ _ 32 _ [] r16 _
  refine sv_aload_n (pc := 32) 1 (sv_d k_Ls_init 16 rfl) rfl rfl ?_
  refine ss_letr (fun w19 e_w19 => ?_)
  refine sv_new (pc := 33) (sv_d k_Ls_init 17 rfl) cf2 w196 wi2 wn2 (by decide +kernel) (sd_lets (fun s18 e_s18 => ?_))
  rw [← e_w19]
  refine sv_dup (pc := 36) (sv_d k_Ls_init 18 rfl) rfl ?_
  refine sv_iconst (pc := 37) (v := (-1 : Int32)) (sv_d k_Ls_init 19 rfl) (by decide) ?_
  refine sv_iconst (pc := 38) (v := (-1 : Int32)) (sv_d k_Ls_init 20 rfl) (by decide) ?_
  refine sv_iconst (pc := 39) (v := (-1 : Int32)) (sv_d k_Ls_init 21 rfl) (by decide) ?_
  refine sv_aload_n (pc := 40) 0 (sv_d k_Ls_init 22 rfl) rfl rfl ?_
  refine sv_iconst (pc := 41) (v := (0 : Int32)) (sv_d k_Ls_init 23 rfl) (by decide) ?_
  refine ss_grd (fun hnb => ?_)
  refine ss_letr (fun w22 e_w22 => ?_)
  refine sv_newa (pc := 42) (kk := 20) (sv_d k_Ls_init 24 rfl) rfl wa20 hnb (sd_lets (fun s21 e_s21 => ?_))
  rw [← e_w22]
  refine sv_iconst (pc := 44) (v := (0 : Int32)) (sv_d k_Ls_init 25 rfl) (by decide) ?_
  refine ss_grd (fun hnb => ?_)
  refine ss_letr (fun w25 e_w25 => ?_)
  refine sv_newa (pc := 45) (kk := 20) (sv_d k_Ls_init 26 rfl) rfl wa20 hnb (sd_lets (fun s24 e_s24 => ?_))
  rw [← e_w25]
  refine sv_callI (pc := 47) (ψ := sd_v) (As := [.int (-1 : Int32), .int (-1 : Int32), .int (-1 : Int32), sv_r E w14, sv_r E w22, sv_r E w25]) (rest := [sv_r E w19, sv_r E a0]) (c := w19) (sv_d k_Ls_init 27 rfl) g_Lw_init rfl rfl w200 in_Lw_init rfl (Nat.le_of_ble_eq_true rfl) (VD_Lw_init E (d + 0) w19 (-1 : Int32) (-1 : Int32) (-1 : Int32) w14 w22 w25 s24) (Nat.le_of_ble_eq_true rfl) rfl (fun r27 => ?_)
  show sv_V E _ _ _ 50 _ [sv_r E w19, sv_r E a0] r27 _
  refine sd_gd (fun k_k28 o_k28 l_k28 => ?_)
  refine sd_putRF (pc := 50) 2 (sv_d k_Ls_init 28 rfl) cf4 (by decide) rfl w231 rfl rfl k_k28 o_k28 l_k28  (fun _ => rfl) (sd_lets (fun s29 e_s29 => ?_))
  refine sv_iconst (pc := 53) (v := (0 : Int32)) (sv_d k_Ls_init 29 rfl) (by decide) ?_
  refine sv_istore_n (pc := 54) (lv' := [(2, .int (0 : Int32)), (1, sv_r E w14), (0, sv_r E a0)]) (sv_d k_Ls_init 30 rfl) rfl (by decide) rfl ?_
  exact sv_loc [2, 0] rfl (VD_Ls_init_b55 E d ss_F a0 (0 : Int32) s29)
/-! Rs_init -/
abbrev m_Rs_init : sv_M := (yX6_init, cX6_init, 4, none)
def t_Rs_init : List (Nat × Instr × Nat) := [(0, .aload_n 0, 1), (1, .invokespecial 3, 3), (4, .aload_n 0, 1), (5, .bipush 60, 2), (7, .anewarray 11, 3), (10, .putfield 13, 3), (13, .aload_n 0, 1), (14, .bipush 6, 2), (16, .newarray .int, 2), (18, .putfield 17, 3), (21, .aload_n 0, 1), (22, .aload_n 1, 1), (23, .putfield 21, 3), (26, .aload_n 0, 1), (27, .aload_n 2, 1), (28, .putfield 25, 3), (31, .iconst 0, 1), (32, .istore_n 3, 1), (33, .iload_n 3, 1), (34, .bipush 60, 2), (36, .if_icmp .ge 22, 3), (39, .aload_n 0, 1), (40, .getfield 13, 3), (43, .iload_n 3, 1), (44, .new 11, 3), (47, .dup, 1), (48, .invokespecial 29, 3), (51, .aastore, 1), (52, .iinc 3 1, 3), (55, .goto (-22), 3), (58, .return_, 1)]
theorem k_Rs_init : sv_tk m_Rs_init.2.1 t_Rs_init := by decide +kernel
theorem g_Rs_init : sv_G m_Rs_init 2 := ⟨by decide +kernel, sv_in 250 (by decide +kernel) rfl, sv_in 96 (by decide +kernel) rfl, ⟨by decide, by decide⟩, by decide +kernel, by decide⟩
theorem in_Rs_init : Cond.instanceMethod m_Rs_init.1 ∈ sv_T := sv_in 249 (by decide +kernel) rfl
def FD_Rs_init_b33 : Nat → Nat → Int32 → sv_H → Option (sv_H)
  | 0 => fun _ _ _ => none
  | n + 1 => fun a0 x3 s =>
    if (60 : Int32) ≤ x3 then
      some s
    else
    if sd_ok s a0 6 = true then
      (s.2.2.1 a0 2).bind fun w17 =>
      ss_let (sv_nx s) fun w20 =>
      ss_let (sv_mk s 5 0 12) fun s19 =>
      (FD_Ra_init w20 s19).bind fun r22 =>
      if sd_ok r22 w17 24 = true then
        if sd_ok r22 w20 5 = true then
          if sv_ib x3 (sv_ln r22 w17) = true then
            ss_let (sv_setR r22 w17 x3.toNatClampNeg (some w20)) fun s24 =>
            ss_let (x3 + (1 : Int32)) fun v25 =>
            FD_Rs_init_b33  n a0 v25 s24
          else none
        else none
      else none
    else none
theorem VD_Rs_init_b33 (E : sv_E) (d : Nat) : ∀ (n : Nat) (a0 : Nat) (x3 : Int32) (s : sv_H), sv_V E m_Rs_init (d + 2) sd_v 33 [(0, sv_r E a0), (3, .int x3)] [] s (FD_Rs_init_b33 n a0 x3 s) := by
  intro n
  induction n with
  | zero => intro a0 x3 s; exact sv_none
  | succ n ih =>
    intro a0 x3 s
    unfold FD_Rs_init_b33
    refine sv_iload_n (pc := 33) 1 (sv_d k_Rs_init 18 rfl) rfl rfl ?_
    refine sv_bipush (pc := 34) (v := (60 : Int32)) (sv_d k_Rs_init 19 rfl) (by decide) ?_
    refine sv_icmp_ge (pc := 36) (tgt := 58) (sv_d k_Rs_init 20 rfl) (by decide) ?_ ?_
    · exact sv_retv (pc := 58) (sv_d k_Rs_init 30 rfl) rfl rfl
    · refine sv_aload_n (pc := 39) 0 (sv_d k_Rs_init 21 rfl) rfl rfl ?_
      refine sd_gd (fun k_k16 o_k16 l_k16 => ?_)
      refine sd_getR (pc := 40) 2 (sv_d k_Rs_init 22 rfl) cf6 (by decide) w329 k_k16 l_k16 (fun _ => rfl) (fun w17 => ?_)
      refine sv_iload_n (pc := 43) 1 (sv_d k_Rs_init 23 rfl) rfl rfl ?_
      refine ss_letr (fun w20 e_w20 => ?_)
      refine sv_new (pc := 44) (sv_d k_Rs_init 24 rfl) cf5 w252 wi5 wn5 (by decide +kernel) (sd_lets (fun s19 e_s19 => ?_))
      rw [← e_w20]
      refine sv_dup (pc := 47) (sv_d k_Rs_init 25 rfl) rfl ?_
      refine sv_callIN (pc := 48) (ψ := sd_v) (As := []) (rest := [sv_r E w20, .int x3, sv_r E w17]) (c := w20) (sv_d k_Rs_init 26 rfl) g_Ra_init rfl rfl w255 in_Ra_init rfl (Nat.le_of_ble_eq_true rfl) (VD_Ra_init E (d + 0) w20 s19) (Nat.le_of_ble_eq_true rfl) rfl (fun r22 => ?_)
      show sv_V E _ _ _ 51 _ [sv_r E w20, .int x3, sv_r E w17] r22 _
      refine sd_gd (fun k_k23 o_k23 l_k23 => ?_)
      refine sd_gd (fun k_k26 o_k26 l_k26 => ?_)
      refine ss_ib (fun hin => sv_aast (pc := 51) (ci := 5) (sv_d k_Rs_init 27 rfl) k_k23 (by decide) (by decide) rfl o_k23 l_k23 hin cf5 k_k26 l_k26 (sd_lets (fun s24 e_s24 => ?_)))
      refine ss_letr (fun v25 e_v25 => ?_)
      refine sv_iinc (pc := 52) (v := v25) (lv' := [(3, .int v25), (0, sv_r E a0)]) (sv_d k_Rs_init 28 rfl) (n := 1) rfl (by rw [e_v25]; rfl) (by decide) rfl ?_
      refine sv_goto (pc := 55) (tgt := 33) (sv_d k_Rs_init 29 rfl) (by decide) ?_
      exact sv_loc [1, 0] rfl (ih a0 v25 s24)
def FD_Rs_init (a0 : Nat) (a1 : Nat) (a2 : Nat) (s : sv_H) : Option (sv_H) :=
  if sd_nb (60 : Int32) = true then
    ss_let (sv_nx s) fun w4 =>
    ss_let (sv_mk s 24 (60 : Int32).toNatClampNeg (60 : Int32).toNatClampNeg) fun s3 =>
    if sd_ok s3 a0 6 = true then
      ss_let (sv_setR s3 a0 2 (some w4)) fun s6 =>
      if sd_nb (6 : Int32) = true then
        ss_let (sv_nx s6) fun w9 =>
        ss_let (sv_mk s6 20 (6 : Int32).toNatClampNeg (6 : Int32).toNatClampNeg) fun s8 =>
        if sd_ok s8 a0 6 = true then
          ss_let (sv_setR s8 a0 3 (some w9)) fun s11 =>
          if sd_ok s11 a0 6 = true then
            ss_let (sv_setR s11 a0 0 (some a1)) fun s13 =>
            if sd_ok s13 a0 6 = true then
              ss_let (sv_setR s13 a0 1 (some a2)) fun s15 =>
              FD_Rs_init_b33 ss_F a0 (0 : Int32) s15
            else none
          else none
        else none
      else none
    else none
  else none
theorem VD_Rs_init (E : sv_E) (d : Nat) (a0 : Nat) (a1 : Nat) (a2 : Nat) (s : sv_H) : sv_V E m_Rs_init (d + 2) sd_v 0 (lv_args 0 [sv_r E a0, sv_r E a1, sv_r E a2]) [] s (FD_Rs_init a0 a1 a2 s) := by
  show sv_V E m_Rs_init (d + 2) sd_v 0 [(0, sv_r E a0), (1, sv_r E a1), (2, sv_r E a2)] [] s _
  unfold FD_Rs_init
  refine sv_aload_n (pc := 0) 0 (sv_d k_Rs_init 0 rfl) rfl rfl ?_
  refine sv_objInit (pc := 1) (sv_d k_Rs_init 1 rfl) w251 (Nat.le_of_ble_eq_true rfl) ?_
  refine sv_aload_n (pc := 4) 0 (sv_d k_Rs_init 2 rfl) rfl rfl ?_
  refine sv_bipush (pc := 5) (v := (60 : Int32)) (sv_d k_Rs_init 3 rfl) (by decide) ?_
  refine ss_grd (fun hnb => ?_)
  refine ss_letr (fun w4 e_w4 => ?_)
  refine sv_anew (pc := 7) (kk := 24) (sv_d k_Rs_init 4 rfl) rfl w252 wa24 hnb (sd_lets (fun s3 e_s3 => ?_))
  rw [← e_w4]
  refine sd_gd (fun k_k5 o_k5 l_k5 => ?_)
  refine sd_putRF (pc := 10) 2 (sv_d k_Rs_init 5 rfl) cf6 (by decide) rfl w329 rfl rfl k_k5 o_k5 l_k5  (fun _ => rfl) (sd_lets (fun s6 e_s6 => ?_))
  refine sv_aload_n (pc := 13) 0 (sv_d k_Rs_init 6 rfl) rfl rfl ?_
  refine sv_bipush (pc := 14) (v := (6 : Int32)) (sv_d k_Rs_init 7 rfl) (by decide) ?_
  refine ss_grd (fun hnb => ?_)
  refine ss_letr (fun w9 e_w9 => ?_)
  refine sv_newa (pc := 16) (kk := 20) (sv_d k_Rs_init 8 rfl) rfl wa20 hnb (sd_lets (fun s8 e_s8 => ?_))
  rw [← e_w9]
  refine sd_gd (fun k_k10 o_k10 l_k10 => ?_)
  refine sd_putRF (pc := 18) 3 (sv_d k_Rs_init 9 rfl) cf6 (by decide) rfl w330 rfl rfl k_k10 o_k10 l_k10  (fun _ => rfl) (sd_lets (fun s11 e_s11 => ?_))
  refine sv_aload_n (pc := 21) 0 (sv_d k_Rs_init 10 rfl) rfl rfl ?_
  refine sv_aload_n (pc := 22) 1 (sv_d k_Rs_init 11 rfl) rfl rfl ?_
  refine sd_gd (fun k_k12 o_k12 l_k12 => ?_)
  refine sd_putRF (pc := 23) 0 (sv_d k_Rs_init 12 rfl) cf6 (by decide) rfl w327 rfl rfl k_k12 o_k12 l_k12  (fun _ => rfl) (sd_lets (fun s13 e_s13 => ?_))
  refine sv_aload_n (pc := 26) 0 (sv_d k_Rs_init 13 rfl) rfl rfl ?_
  refine sv_aload_n (pc := 27) 2 (sv_d k_Rs_init 14 rfl) rfl rfl ?_
  refine sd_gd (fun k_k14 o_k14 l_k14 => ?_)
  refine sd_putRF (pc := 28) 1 (sv_d k_Rs_init 15 rfl) cf6 (by decide) rfl w328 rfl rfl k_k14 o_k14 l_k14  (fun _ => rfl) (sd_lets (fun s15 e_s15 => ?_))
  refine sv_iconst (pc := 31) (v := (0 : Int32)) (sv_d k_Rs_init 16 rfl) (by decide) ?_
  refine sv_istore_n (pc := 32) (lv' := [(3, .int (0 : Int32)), (0, sv_r E a0), (1, sv_r E a1), (2, sv_r E a2)]) (sv_d k_Rs_init 17 rfl) rfl (by decide) rfl ?_
  exact sv_loc [1, 0] rfl (VD_Rs_init_b33 E d ss_F a0 (0 : Int32) s15)
/-! Tr_init -/
abbrev m_Tr_init : sv_M := (yX9_init, cX9_init, 3, none)
def t_Tr_init : List (Nat × Instr × Nat) := [(0, .aload_n 0, 1), (1, .invokespecial 3, 3), (4, .aload_n 0, 1), (5, .bipush 80, 2), (7, .newarray .int, 2), (9, .putfield 11, 3), (12, .aload_n 0, 1), (13, .bipush 80, 2), (15, .newarray .int, 2), (17, .putfield 15, 3), (20, .aload_n 0, 1), (21, .bipush 80, 2), (23, .newarray .int, 2), (25, .putfield 18, 3), (28, .aload_n 0, 1), (29, .bipush 80, 2), (31, .newarray .int, 2), (33, .putfield 21, 3), (36, .aload_n 0, 1), (37, .bipush 80, 2), (39, .newarray .int, 2), (41, .putfield 24, 3), (44, .aload_n 0, 1), (45, .bipush 7, 2), (47, .newarray .int, 2), (49, .putfield 29, 3), (52, .aload_n 0, 1), (53, .bipush 80, 2), (55, .newarray .int, 2), (57, .putfield 32, 3), (60, .aload_n 0, 1), (61, .aload_n 1, 1), (62, .putfield 35, 3), (65, .aload_n 0, 1), (66, .aload_n 2, 1), (67, .putfield 39, 3), (70, .return_, 1)]
theorem k_Tr_init : sv_tk m_Tr_init.2.1 t_Tr_init := by decide +kernel
theorem g_Tr_init : sv_G m_Tr_init 2 := ⟨by decide +kernel, sv_in 349 (by decide +kernel) rfl, sv_in 98 (by decide +kernel) rfl, ⟨by decide, by decide⟩, by decide +kernel, by decide⟩
theorem in_Tr_init : Cond.instanceMethod m_Tr_init.1 ∈ sv_T := sv_in 348 (by decide +kernel) rfl
def FD_Tr_init (a0 : Nat) (a1 : Nat) (a2 : Nat) (s : sv_H) : Option (sv_H) :=
  if sd_nb (80 : Int32) = true then
    ss_let (sv_nx s) fun w4 =>
    ss_let (sv_mk s 20 (80 : Int32).toNatClampNeg (80 : Int32).toNatClampNeg) fun s3 =>
    if sd_ok s3 a0 9 = true then
      ss_let (sv_setR s3 a0 2 (some w4)) fun s6 =>
      if sd_nb (80 : Int32) = true then
        ss_let (sv_nx s6) fun w9 =>
        ss_let (sv_mk s6 20 (80 : Int32).toNatClampNeg (80 : Int32).toNatClampNeg) fun s8 =>
        if sd_ok s8 a0 9 = true then
          ss_let (sv_setR s8 a0 3 (some w9)) fun s11 =>
          if sd_nb (80 : Int32) = true then
            ss_let (sv_nx s11) fun w14 =>
            ss_let (sv_mk s11 20 (80 : Int32).toNatClampNeg (80 : Int32).toNatClampNeg) fun s13 =>
            if sd_ok s13 a0 9 = true then
              ss_let (sv_setR s13 a0 4 (some w14)) fun s16 =>
              if sd_nb (80 : Int32) = true then
                ss_let (sv_nx s16) fun w19 =>
                ss_let (sv_mk s16 20 (80 : Int32).toNatClampNeg (80 : Int32).toNatClampNeg) fun s18 =>
                if sd_ok s18 a0 9 = true then
                  ss_let (sv_setR s18 a0 5 (some w19)) fun s21 =>
                  if sd_nb (80 : Int32) = true then
                    ss_let (sv_nx s21) fun w24 =>
                    ss_let (sv_mk s21 20 (80 : Int32).toNatClampNeg (80 : Int32).toNatClampNeg) fun s23 =>
                    if sd_ok s23 a0 9 = true then
                      ss_let (sv_setR s23 a0 6 (some w24)) fun s26 =>
                      if sd_nb (7 : Int32) = true then
                        ss_let (sv_nx s26) fun w29 =>
                        ss_let (sv_mk s26 20 (7 : Int32).toNatClampNeg (7 : Int32).toNatClampNeg) fun s28 =>
                        if sd_ok s28 a0 9 = true then
                          ss_let (sv_setR s28 a0 7 (some w29)) fun s31 =>
                          if sd_nb (80 : Int32) = true then
                            ss_let (sv_nx s31) fun w34 =>
                            ss_let (sv_mk s31 20 (80 : Int32).toNatClampNeg (80 : Int32).toNatClampNeg) fun s33 =>
                            if sd_ok s33 a0 9 = true then
                              ss_let (sv_setR s33 a0 8 (some w34)) fun s36 =>
                              if sd_ok s36 a0 9 = true then
                                ss_let (sv_setR s36 a0 0 (some a1)) fun s38 =>
                                if sd_ok s38 a0 9 = true then
                                  ss_let (sv_setR s38 a0 1 (some a2)) fun s40 =>
                                  some s40
                                else none
                              else none
                            else none
                          else none
                        else none
                      else none
                    else none
                  else none
                else none
              else none
            else none
          else none
        else none
      else none
    else none
  else none
theorem VD_Tr_init (E : sv_E) (d : Nat) (a0 : Nat) (a1 : Nat) (a2 : Nat) (s : sv_H) : sv_V E m_Tr_init (d + 1) sd_v 0 (lv_args 0 [sv_r E a0, sv_r E a1, sv_r E a2]) [] s (FD_Tr_init a0 a1 a2 s) := by
  show sv_V E m_Tr_init (d + 1) sd_v 0 [(0, sv_r E a0), (1, sv_r E a1), (2, sv_r E a2)] [] s _
  unfold FD_Tr_init
  refine sv_aload_n (pc := 0) 0 (sv_d k_Tr_init 0 rfl) rfl rfl ?_
  refine sv_objInit (pc := 1) (sv_d k_Tr_init 1 rfl) w350 (Nat.le_of_ble_eq_true rfl) ?_
  refine sv_aload_n (pc := 4) 0 (sv_d k_Tr_init 2 rfl) rfl rfl ?_
  refine sv_bipush (pc := 5) (v := (80 : Int32)) (sv_d k_Tr_init 3 rfl) (by decide) ?_
  refine ss_grd (fun hnb => ?_)
  refine ss_letr (fun w4 e_w4 => ?_)
  refine sv_newa (pc := 7) (kk := 20) (sv_d k_Tr_init 4 rfl) rfl wa20 hnb (sd_lets (fun s3 e_s3 => ?_))
  rw [← e_w4]
  refine sd_gd (fun k_k5 o_k5 l_k5 => ?_)
  refine sd_putRF (pc := 9) 2 (sv_d k_Tr_init 5 rfl) cf9 (by decide) rfl w353 rfl rfl k_k5 o_k5 l_k5  (fun _ => rfl) (sd_lets (fun s6 e_s6 => ?_))
  refine sv_aload_n (pc := 12) 0 (sv_d k_Tr_init 6 rfl) rfl rfl ?_
  refine sv_bipush (pc := 13) (v := (80 : Int32)) (sv_d k_Tr_init 7 rfl) (by decide) ?_
  refine ss_grd (fun hnb => ?_)
  refine ss_letr (fun w9 e_w9 => ?_)
  refine sv_newa (pc := 15) (kk := 20) (sv_d k_Tr_init 8 rfl) rfl wa20 hnb (sd_lets (fun s8 e_s8 => ?_))
  rw [← e_w9]
  refine sd_gd (fun k_k10 o_k10 l_k10 => ?_)
  refine sd_putRF (pc := 17) 3 (sv_d k_Tr_init 9 rfl) cf9 (by decide) rfl w354 rfl rfl k_k10 o_k10 l_k10  (fun _ => rfl) (sd_lets (fun s11 e_s11 => ?_))
  refine sv_aload_n (pc := 20) 0 (sv_d k_Tr_init 10 rfl) rfl rfl ?_
  refine sv_bipush (pc := 21) (v := (80 : Int32)) (sv_d k_Tr_init 11 rfl) (by decide) ?_
  refine ss_grd (fun hnb => ?_)
  refine ss_letr (fun w14 e_w14 => ?_)
  refine sv_newa (pc := 23) (kk := 20) (sv_d k_Tr_init 12 rfl) rfl wa20 hnb (sd_lets (fun s13 e_s13 => ?_))
  rw [← e_w14]
  refine sd_gd (fun k_k15 o_k15 l_k15 => ?_)
  refine sd_putRF (pc := 25) 4 (sv_d k_Tr_init 13 rfl) cf9 (by decide) rfl w355 rfl rfl k_k15 o_k15 l_k15  (fun _ => rfl) (sd_lets (fun s16 e_s16 => ?_))
  refine sv_aload_n (pc := 28) 0 (sv_d k_Tr_init 14 rfl) rfl rfl ?_
  refine sv_bipush (pc := 29) (v := (80 : Int32)) (sv_d k_Tr_init 15 rfl) (by decide) ?_
  refine ss_grd (fun hnb => ?_)
  refine ss_letr (fun w19 e_w19 => ?_)
  refine sv_newa (pc := 31) (kk := 20) (sv_d k_Tr_init 16 rfl) rfl wa20 hnb (sd_lets (fun s18 e_s18 => ?_))
  rw [← e_w19]
  refine sd_gd (fun k_k20 o_k20 l_k20 => ?_)
  refine sd_putRF (pc := 33) 5 (sv_d k_Tr_init 17 rfl) cf9 (by decide) rfl w356 rfl rfl k_k20 o_k20 l_k20  (fun _ => rfl) (sd_lets (fun s21 e_s21 => ?_))
  refine sv_aload_n (pc := 36) 0 (sv_d k_Tr_init 18 rfl) rfl rfl ?_
  refine sv_bipush (pc := 37) (v := (80 : Int32)) (sv_d k_Tr_init 19 rfl) (by decide) ?_
  refine ss_grd (fun hnb => ?_)
  refine ss_letr (fun w24 e_w24 => ?_)
  refine sv_newa (pc := 39) (kk := 20) (sv_d k_Tr_init 20 rfl) rfl wa20 hnb (sd_lets (fun s23 e_s23 => ?_))
  rw [← e_w24]
  refine sd_gd (fun k_k25 o_k25 l_k25 => ?_)
  refine sd_putRF (pc := 41) 6 (sv_d k_Tr_init 21 rfl) cf9 (by decide) rfl w357 rfl rfl k_k25 o_k25 l_k25  (fun _ => rfl) (sd_lets (fun s26 e_s26 => ?_))
  refine sv_aload_n (pc := 44) 0 (sv_d k_Tr_init 22 rfl) rfl rfl ?_
  refine sv_bipush (pc := 45) (v := (7 : Int32)) (sv_d k_Tr_init 23 rfl) (by decide) ?_
  refine ss_grd (fun hnb => ?_)
  refine ss_letr (fun w29 e_w29 => ?_)
  refine sv_newa (pc := 47) (kk := 20) (sv_d k_Tr_init 24 rfl) rfl wa20 hnb (sd_lets (fun s28 e_s28 => ?_))
  rw [← e_w29]
  refine sd_gd (fun k_k30 o_k30 l_k30 => ?_)
  refine sd_putRF (pc := 49) 7 (sv_d k_Tr_init 25 rfl) cf9 (by decide) rfl w358 rfl rfl k_k30 o_k30 l_k30  (fun _ => rfl) (sd_lets (fun s31 e_s31 => ?_))
  refine sv_aload_n (pc := 52) 0 (sv_d k_Tr_init 26 rfl) rfl rfl ?_
  refine sv_bipush (pc := 53) (v := (80 : Int32)) (sv_d k_Tr_init 27 rfl) (by decide) ?_
  refine ss_grd (fun hnb => ?_)
  refine ss_letr (fun w34 e_w34 => ?_)
  refine sv_newa (pc := 55) (kk := 20) (sv_d k_Tr_init 28 rfl) rfl wa20 hnb (sd_lets (fun s33 e_s33 => ?_))
  rw [← e_w34]
  refine sd_gd (fun k_k35 o_k35 l_k35 => ?_)
  refine sd_putRF (pc := 57) 8 (sv_d k_Tr_init 29 rfl) cf9 (by decide) rfl w359 rfl rfl k_k35 o_k35 l_k35  (fun _ => rfl) (sd_lets (fun s36 e_s36 => ?_))
  refine sv_aload_n (pc := 60) 0 (sv_d k_Tr_init 30 rfl) rfl rfl ?_
  refine sv_aload_n (pc := 61) 1 (sv_d k_Tr_init 31 rfl) rfl rfl ?_
  refine sd_gd (fun k_k37 o_k37 l_k37 => ?_)
  refine sd_putRF (pc := 62) 0 (sv_d k_Tr_init 32 rfl) cf9 (by decide) rfl w351 rfl rfl k_k37 o_k37 l_k37  (fun _ => rfl) (sd_lets (fun s38 e_s38 => ?_))
  refine sv_aload_n (pc := 65) 0 (sv_d k_Tr_init 33 rfl) rfl rfl ?_
  refine sv_aload_n (pc := 66) 2 (sv_d k_Tr_init 34 rfl) rfl rfl ?_
  refine sd_gd (fun k_k39 o_k39 l_k39 => ?_)
  refine sd_putRF (pc := 67) 1 (sv_d k_Tr_init 35 rfl) cf9 (by decide) rfl w352 rfl rfl k_k39 o_k39 l_k39  (fun _ => rfl) (sd_lets (fun s40 e_s40 => ?_))
  exact sv_retv (pc := 70) (sv_d k_Tr_init 36 rfl) rfl rfl
/-! Ca_init -/
abbrev m_Ca_init : sv_M := (yX1_init, cX1_init, 2, none)
def t_Ca_init : List (Nat × Instr × Nat) := [(0, .aload_n 0, 1), (1, .invokespecial 3, 3), (4, .aload_n 0, 1), (5, .bipush 60, 2), (7, .newarray .int, 2), (9, .putfield 11, 3), (12, .aload_n 0, 1), (13, .bipush 60, 2), (15, .newarray .int, 2), (17, .putfield 17, 3), (20, .aload_n 0, 1), (21, .sipush 144, 3), (24, .newarray .int, 2), (26, .putfield 20, 3), (29, .aload_n 0, 1), (30, .aload_n 1, 1), (31, .putfield 23, 3), (34, .return_, 1)]
theorem k_Ca_init : sv_tk m_Ca_init.2.1 t_Ca_init := by decide +kernel
theorem g_Ca_init : sv_G m_Ca_init 1 := ⟨by decide +kernel, sv_in 390 (by decide +kernel) rfl, sv_in 99 (by decide +kernel) rfl, ⟨by decide, by decide⟩, by decide +kernel, by decide⟩
theorem in_Ca_init : Cond.instanceMethod m_Ca_init.1 ∈ sv_T := sv_in 389 (by decide +kernel) rfl
def FD_Ca_init (a0 : Nat) (a1 : Nat) (s : sv_H) : Option (sv_H) :=
  if sd_nb (60 : Int32) = true then
    ss_let (sv_nx s) fun w4 =>
    ss_let (sv_mk s 20 (60 : Int32).toNatClampNeg (60 : Int32).toNatClampNeg) fun s3 =>
    if sd_ok s3 a0 1 = true then
      ss_let (sv_setR s3 a0 1 (some w4)) fun s6 =>
      if sd_nb (60 : Int32) = true then
        ss_let (sv_nx s6) fun w9 =>
        ss_let (sv_mk s6 20 (60 : Int32).toNatClampNeg (60 : Int32).toNatClampNeg) fun s8 =>
        if sd_ok s8 a0 1 = true then
          ss_let (sv_setR s8 a0 2 (some w9)) fun s11 =>
          if sd_nb (144 : Int32) = true then
            ss_let (sv_nx s11) fun w14 =>
            ss_let (sv_mk s11 20 (144 : Int32).toNatClampNeg (144 : Int32).toNatClampNeg) fun s13 =>
            if sd_ok s13 a0 1 = true then
              ss_let (sv_setR s13 a0 3 (some w14)) fun s16 =>
              if sd_ok s16 a0 1 = true then
                ss_let (sv_setR s16 a0 0 (some a1)) fun s18 =>
                some s18
              else none
            else none
          else none
        else none
      else none
    else none
  else none
theorem VD_Ca_init (E : sv_E) (d : Nat) (a0 : Nat) (a1 : Nat) (s : sv_H) : sv_V E m_Ca_init (d + 1) sd_v 0 (lv_args 0 [sv_r E a0, sv_r E a1]) [] s (FD_Ca_init a0 a1 s) := by
  show sv_V E m_Ca_init (d + 1) sd_v 0 [(0, sv_r E a0), (1, sv_r E a1)] [] s _
  unfold FD_Ca_init
  refine sv_aload_n (pc := 0) 0 (sv_d k_Ca_init 0 rfl) rfl rfl ?_
  refine sv_objInit (pc := 1) (sv_d k_Ca_init 1 rfl) w391 (Nat.le_of_ble_eq_true rfl) ?_
  refine sv_aload_n (pc := 4) 0 (sv_d k_Ca_init 2 rfl) rfl rfl ?_
  refine sv_bipush (pc := 5) (v := (60 : Int32)) (sv_d k_Ca_init 3 rfl) (by decide) ?_
  refine ss_grd (fun hnb => ?_)
  refine ss_letr (fun w4 e_w4 => ?_)
  refine sv_newa (pc := 7) (kk := 20) (sv_d k_Ca_init 4 rfl) rfl wa20 hnb (sd_lets (fun s3 e_s3 => ?_))
  rw [← e_w4]
  refine sd_gd (fun k_k5 o_k5 l_k5 => ?_)
  refine sd_putRF (pc := 9) 1 (sv_d k_Ca_init 5 rfl) cf1 (by decide) rfl w393 rfl rfl k_k5 o_k5 l_k5  (fun _ => rfl) (sd_lets (fun s6 e_s6 => ?_))
  refine sv_aload_n (pc := 12) 0 (sv_d k_Ca_init 6 rfl) rfl rfl ?_
  refine sv_bipush (pc := 13) (v := (60 : Int32)) (sv_d k_Ca_init 7 rfl) (by decide) ?_
  refine ss_grd (fun hnb => ?_)
  refine ss_letr (fun w9 e_w9 => ?_)
  refine sv_newa (pc := 15) (kk := 20) (sv_d k_Ca_init 8 rfl) rfl wa20 hnb (sd_lets (fun s8 e_s8 => ?_))
  rw [← e_w9]
  refine sd_gd (fun k_k10 o_k10 l_k10 => ?_)
  refine sd_putRF (pc := 17) 2 (sv_d k_Ca_init 9 rfl) cf1 (by decide) rfl w395 rfl rfl k_k10 o_k10 l_k10  (fun _ => rfl) (sd_lets (fun s11 e_s11 => ?_))
  refine sv_aload_n (pc := 20) 0 (sv_d k_Ca_init 10 rfl) rfl rfl ?_
  refine sv_sipush (pc := 21) (v := (144 : Int32)) (sv_d k_Ca_init 11 rfl) (by decide) ?_
  refine ss_grd (fun hnb => ?_)
  refine ss_letr (fun w14 e_w14 => ?_)
  refine sv_newa (pc := 24) (kk := 20) (sv_d k_Ca_init 12 rfl) rfl wa20 hnb (sd_lets (fun s13 e_s13 => ?_))
  rw [← e_w14]
  refine sd_gd (fun k_k15 o_k15 l_k15 => ?_)
  refine sd_putRF (pc := 26) 3 (sv_d k_Ca_init 13 rfl) cf1 (by decide) rfl w396 rfl rfl k_k15 o_k15 l_k15  (fun _ => rfl) (sd_lets (fun s16 e_s16 => ?_))
  refine sv_aload_n (pc := 29) 0 (sv_d k_Ca_init 14 rfl) rfl rfl ?_
  refine sv_aload_n (pc := 30) 1 (sv_d k_Ca_init 15 rfl) rfl rfl ?_
  refine sd_gd (fun k_k17 o_k17 l_k17 => ?_)
  refine sd_putRF (pc := 31) 0 (sv_d k_Ca_init 16 rfl) cf1 (by decide) rfl w392 rfl rfl k_k17 o_k17 l_k17  (fun _ => rfl) (sd_lets (fun s18 e_s18 => ?_))
  exact sv_retv (pc := 34) (sv_d k_Ca_init 17 rfl) rfl rfl
/-! Wa_init -/
abbrev m_Wa_init : sv_M := (yX10_init, cX10_init, 3, none)
def t_Wa_init : List (Nat × Instr × Nat) := [(0, .aload_n 0, 1), (1, .invokespecial 3, 3), (4, .aload_n 0, 1), (5, .bipush 20, 2), (7, .newarray .int, 2), (9, .putfield 11, 3), (12, .aload_n 0, 1), (13, .bipush 20, 2), (15, .newarray .int, 2), (17, .putfield 15, 3), (20, .aload_n 0, 1), (21, .bipush 20, 2), (23, .newarray .int, 2), (25, .putfield 18, 3), (28, .aload_n 0, 1), (29, .bipush 20, 2), (31, .newarray .int, 2), (33, .putfield 21, 3), (36, .aload_n 0, 1), (37, .bipush 20, 2), (39, .newarray .int, 2), (41, .putfield 24, 3), (44, .aload_n 0, 1), (45, .bipush 10, 2), (47, .newarray .int, 2), (49, .putfield 27, 3), (52, .aload_n 0, 1), (53, .bipush 10, 2), (55, .newarray .int, 2), (57, .putfield 30, 3), (60, .aload_n 0, 1), (61, .bipush 10, 2), (63, .newarray .int, 2), (65, .putfield 33, 3), (68, .aload_n 0, 1), (69, .bipush 10, 2), (71, .newarray .int, 2), (73, .putfield 36, 3), (76, .aload_n 0, 1), (77, .sipush 1024, 3), (80, .newarray .int, 2), (82, .putfield 39, 3), (85, .aload_n 0, 1), (86, .sipush 1024, 3), (89, .newarray .int, 2), (91, .putfield 42, 3), (94, .aload_n 0, 1), (95, .aload_n 1, 1), (96, .putfield 45, 3), (99, .aload_n 0, 1), (100, .aload_n 2, 1), (101, .putfield 49, 3), (104, .return_, 1)]
theorem k_Wa_init : sv_tk m_Wa_init.2.1 t_Wa_init := by decide +kernel
theorem g_Wa_init : sv_G m_Wa_init 2 := ⟨by decide +kernel, sv_in 416 (by decide +kernel) rfl, sv_in 100 (by decide +kernel) rfl, ⟨by decide, by decide⟩, by decide +kernel, by decide⟩
theorem in_Wa_init : Cond.instanceMethod m_Wa_init.1 ∈ sv_T := sv_in 415 (by decide +kernel) rfl
def FD_Wa_init (a0 : Nat) (a1 : Nat) (a2 : Nat) (s : sv_H) : Option (sv_H) :=
  if sd_nb (20 : Int32) = true then
    ss_let (sv_nx s) fun w4 =>
    ss_let (sv_mk s 20 (20 : Int32).toNatClampNeg (20 : Int32).toNatClampNeg) fun s3 =>
    if sd_ok s3 a0 10 = true then
      ss_let (sv_setR s3 a0 2 (some w4)) fun s6 =>
      if sd_nb (20 : Int32) = true then
        ss_let (sv_nx s6) fun w9 =>
        ss_let (sv_mk s6 20 (20 : Int32).toNatClampNeg (20 : Int32).toNatClampNeg) fun s8 =>
        if sd_ok s8 a0 10 = true then
          ss_let (sv_setR s8 a0 3 (some w9)) fun s11 =>
          if sd_nb (20 : Int32) = true then
            ss_let (sv_nx s11) fun w14 =>
            ss_let (sv_mk s11 20 (20 : Int32).toNatClampNeg (20 : Int32).toNatClampNeg) fun s13 =>
            if sd_ok s13 a0 10 = true then
              ss_let (sv_setR s13 a0 4 (some w14)) fun s16 =>
              if sd_nb (20 : Int32) = true then
                ss_let (sv_nx s16) fun w19 =>
                ss_let (sv_mk s16 20 (20 : Int32).toNatClampNeg (20 : Int32).toNatClampNeg) fun s18 =>
                if sd_ok s18 a0 10 = true then
                  ss_let (sv_setR s18 a0 5 (some w19)) fun s21 =>
                  if sd_nb (20 : Int32) = true then
                    ss_let (sv_nx s21) fun w24 =>
                    ss_let (sv_mk s21 20 (20 : Int32).toNatClampNeg (20 : Int32).toNatClampNeg) fun s23 =>
                    if sd_ok s23 a0 10 = true then
                      ss_let (sv_setR s23 a0 6 (some w24)) fun s26 =>
                      if sd_nb (10 : Int32) = true then
                        ss_let (sv_nx s26) fun w29 =>
                        ss_let (sv_mk s26 20 (10 : Int32).toNatClampNeg (10 : Int32).toNatClampNeg) fun s28 =>
                        if sd_ok s28 a0 10 = true then
                          ss_let (sv_setR s28 a0 7 (some w29)) fun s31 =>
                          if sd_nb (10 : Int32) = true then
                            ss_let (sv_nx s31) fun w34 =>
                            ss_let (sv_mk s31 20 (10 : Int32).toNatClampNeg (10 : Int32).toNatClampNeg) fun s33 =>
                            if sd_ok s33 a0 10 = true then
                              ss_let (sv_setR s33 a0 8 (some w34)) fun s36 =>
                              if sd_nb (10 : Int32) = true then
                                ss_let (sv_nx s36) fun w39 =>
                                ss_let (sv_mk s36 20 (10 : Int32).toNatClampNeg (10 : Int32).toNatClampNeg) fun s38 =>
                                if sd_ok s38 a0 10 = true then
                                  ss_let (sv_setR s38 a0 9 (some w39)) fun s41 =>
                                  if sd_nb (10 : Int32) = true then
                                    ss_let (sv_nx s41) fun w44 =>
                                    ss_let (sv_mk s41 20 (10 : Int32).toNatClampNeg (10 : Int32).toNatClampNeg) fun s43 =>
                                    if sd_ok s43 a0 10 = true then
                                      ss_let (sv_setR s43 a0 10 (some w44)) fun s46 =>
                                      if sd_nb (1024 : Int32) = true then
                                        ss_let (sv_nx s46) fun w49 =>
                                        ss_let (sv_mk s46 20 (1024 : Int32).toNatClampNeg (1024 : Int32).toNatClampNeg) fun s48 =>
                                        if sd_ok s48 a0 10 = true then
                                          ss_let (sv_setR s48 a0 11 (some w49)) fun s51 =>
                                          if sd_nb (1024 : Int32) = true then
                                            ss_let (sv_nx s51) fun w54 =>
                                            ss_let (sv_mk s51 20 (1024 : Int32).toNatClampNeg (1024 : Int32).toNatClampNeg) fun s53 =>
                                            if sd_ok s53 a0 10 = true then
                                              ss_let (sv_setR s53 a0 12 (some w54)) fun s56 =>
                                              if sd_ok s56 a0 10 = true then
                                                ss_let (sv_setR s56 a0 0 (some a1)) fun s58 =>
                                                if sd_ok s58 a0 10 = true then
                                                  ss_let (sv_setR s58 a0 1 (some a2)) fun s60 =>
                                                  some s60
                                                else none
                                              else none
                                            else none
                                          else none
                                        else none
                                      else none
                                    else none
                                  else none
                                else none
                              else none
                            else none
                          else none
                        else none
                      else none
                    else none
                  else none
                else none
              else none
            else none
          else none
        else none
      else none
    else none
  else none
theorem VD_Wa_init (E : sv_E) (d : Nat) (a0 : Nat) (a1 : Nat) (a2 : Nat) (s : sv_H) : sv_V E m_Wa_init (d + 1) sd_v 0 (lv_args 0 [sv_r E a0, sv_r E a1, sv_r E a2]) [] s (FD_Wa_init a0 a1 a2 s) := by
  show sv_V E m_Wa_init (d + 1) sd_v 0 [(0, sv_r E a0), (1, sv_r E a1), (2, sv_r E a2)] [] s _
  unfold FD_Wa_init
  refine sv_aload_n (pc := 0) 0 (sv_d k_Wa_init 0 rfl) rfl rfl ?_
  refine sv_objInit (pc := 1) (sv_d k_Wa_init 1 rfl) w417 (Nat.le_of_ble_eq_true rfl) ?_
  refine sv_aload_n (pc := 4) 0 (sv_d k_Wa_init 2 rfl) rfl rfl ?_
  refine sv_bipush (pc := 5) (v := (20 : Int32)) (sv_d k_Wa_init 3 rfl) (by decide) ?_
  refine ss_grd (fun hnb => ?_)
  refine ss_letr (fun w4 e_w4 => ?_)
  refine sv_newa (pc := 7) (kk := 20) (sv_d k_Wa_init 4 rfl) rfl wa20 hnb (sd_lets (fun s3 e_s3 => ?_))
  rw [← e_w4]
  refine sd_gd (fun k_k5 o_k5 l_k5 => ?_)
  refine sd_putRF (pc := 9) 2 (sv_d k_Wa_init 5 rfl) cf10 (by decide) rfl w420 rfl rfl k_k5 o_k5 l_k5  (fun _ => rfl) (sd_lets (fun s6 e_s6 => ?_))
  refine sv_aload_n (pc := 12) 0 (sv_d k_Wa_init 6 rfl) rfl rfl ?_
  refine sv_bipush (pc := 13) (v := (20 : Int32)) (sv_d k_Wa_init 7 rfl) (by decide) ?_
  refine ss_grd (fun hnb => ?_)
  refine ss_letr (fun w9 e_w9 => ?_)
  refine sv_newa (pc := 15) (kk := 20) (sv_d k_Wa_init 8 rfl) rfl wa20 hnb (sd_lets (fun s8 e_s8 => ?_))
  rw [← e_w9]
  refine sd_gd (fun k_k10 o_k10 l_k10 => ?_)
  refine sd_putRF (pc := 17) 3 (sv_d k_Wa_init 9 rfl) cf10 (by decide) rfl w421 rfl rfl k_k10 o_k10 l_k10  (fun _ => rfl) (sd_lets (fun s11 e_s11 => ?_))
  refine sv_aload_n (pc := 20) 0 (sv_d k_Wa_init 10 rfl) rfl rfl ?_
  refine sv_bipush (pc := 21) (v := (20 : Int32)) (sv_d k_Wa_init 11 rfl) (by decide) ?_
  refine ss_grd (fun hnb => ?_)
  refine ss_letr (fun w14 e_w14 => ?_)
  refine sv_newa (pc := 23) (kk := 20) (sv_d k_Wa_init 12 rfl) rfl wa20 hnb (sd_lets (fun s13 e_s13 => ?_))
  rw [← e_w14]
  refine sd_gd (fun k_k15 o_k15 l_k15 => ?_)
  refine sd_putRF (pc := 25) 4 (sv_d k_Wa_init 13 rfl) cf10 (by decide) rfl w422 rfl rfl k_k15 o_k15 l_k15  (fun _ => rfl) (sd_lets (fun s16 e_s16 => ?_))
  refine sv_aload_n (pc := 28) 0 (sv_d k_Wa_init 14 rfl) rfl rfl ?_
  refine sv_bipush (pc := 29) (v := (20 : Int32)) (sv_d k_Wa_init 15 rfl) (by decide) ?_
  refine ss_grd (fun hnb => ?_)
  refine ss_letr (fun w19 e_w19 => ?_)
  refine sv_newa (pc := 31) (kk := 20) (sv_d k_Wa_init 16 rfl) rfl wa20 hnb (sd_lets (fun s18 e_s18 => ?_))
  rw [← e_w19]
  refine sd_gd (fun k_k20 o_k20 l_k20 => ?_)
  refine sd_putRF (pc := 33) 5 (sv_d k_Wa_init 17 rfl) cf10 (by decide) rfl w423 rfl rfl k_k20 o_k20 l_k20  (fun _ => rfl) (sd_lets (fun s21 e_s21 => ?_))
  refine sv_aload_n (pc := 36) 0 (sv_d k_Wa_init 18 rfl) rfl rfl ?_
  refine sv_bipush (pc := 37) (v := (20 : Int32)) (sv_d k_Wa_init 19 rfl) (by decide) ?_
  refine ss_grd (fun hnb => ?_)
  refine ss_letr (fun w24 e_w24 => ?_)
  refine sv_newa (pc := 39) (kk := 20) (sv_d k_Wa_init 20 rfl) rfl wa20 hnb (sd_lets (fun s23 e_s23 => ?_))
  rw [← e_w24]
  refine sd_gd (fun k_k25 o_k25 l_k25 => ?_)
  refine sd_putRF (pc := 41) 6 (sv_d k_Wa_init 21 rfl) cf10 (by decide) rfl w424 rfl rfl k_k25 o_k25 l_k25  (fun _ => rfl) (sd_lets (fun s26 e_s26 => ?_))
  refine sv_aload_n (pc := 44) 0 (sv_d k_Wa_init 22 rfl) rfl rfl ?_
  refine sv_bipush (pc := 45) (v := (10 : Int32)) (sv_d k_Wa_init 23 rfl) (by decide) ?_
  refine ss_grd (fun hnb => ?_)
  refine ss_letr (fun w29 e_w29 => ?_)
  refine sv_newa (pc := 47) (kk := 20) (sv_d k_Wa_init 24 rfl) rfl wa20 hnb (sd_lets (fun s28 e_s28 => ?_))
  rw [← e_w29]
  refine sd_gd (fun k_k30 o_k30 l_k30 => ?_)
  refine sd_putRF (pc := 49) 7 (sv_d k_Wa_init 25 rfl) cf10 (by decide) rfl w425 rfl rfl k_k30 o_k30 l_k30  (fun _ => rfl) (sd_lets (fun s31 e_s31 => ?_))
  refine sv_aload_n (pc := 52) 0 (sv_d k_Wa_init 26 rfl) rfl rfl ?_
  refine sv_bipush (pc := 53) (v := (10 : Int32)) (sv_d k_Wa_init 27 rfl) (by decide) ?_
  refine ss_grd (fun hnb => ?_)
  refine ss_letr (fun w34 e_w34 => ?_)
  refine sv_newa (pc := 55) (kk := 20) (sv_d k_Wa_init 28 rfl) rfl wa20 hnb (sd_lets (fun s33 e_s33 => ?_))
  rw [← e_w34]
  refine sd_gd (fun k_k35 o_k35 l_k35 => ?_)
  refine sd_putRF (pc := 57) 8 (sv_d k_Wa_init 29 rfl) cf10 (by decide) rfl w426 rfl rfl k_k35 o_k35 l_k35  (fun _ => rfl) (sd_lets (fun s36 e_s36 => ?_))
  refine sv_aload_n (pc := 60) 0 (sv_d k_Wa_init 30 rfl) rfl rfl ?_
  refine sv_bipush (pc := 61) (v := (10 : Int32)) (sv_d k_Wa_init 31 rfl) (by decide) ?_
  refine ss_grd (fun hnb => ?_)
  refine ss_letr (fun w39 e_w39 => ?_)
  refine sv_newa (pc := 63) (kk := 20) (sv_d k_Wa_init 32 rfl) rfl wa20 hnb (sd_lets (fun s38 e_s38 => ?_))
  rw [← e_w39]
  refine sd_gd (fun k_k40 o_k40 l_k40 => ?_)
  refine sd_putRF (pc := 65) 9 (sv_d k_Wa_init 33 rfl) cf10 (by decide) rfl w427 rfl rfl k_k40 o_k40 l_k40  (fun _ => rfl) (sd_lets (fun s41 e_s41 => ?_))
  refine sv_aload_n (pc := 68) 0 (sv_d k_Wa_init 34 rfl) rfl rfl ?_
  refine sv_bipush (pc := 69) (v := (10 : Int32)) (sv_d k_Wa_init 35 rfl) (by decide) ?_
  refine ss_grd (fun hnb => ?_)
  refine ss_letr (fun w44 e_w44 => ?_)
  refine sv_newa (pc := 71) (kk := 20) (sv_d k_Wa_init 36 rfl) rfl wa20 hnb (sd_lets (fun s43 e_s43 => ?_))
  rw [← e_w44]
  refine sd_gd (fun k_k45 o_k45 l_k45 => ?_)
  refine sd_putRF (pc := 73) 10 (sv_d k_Wa_init 37 rfl) cf10 (by decide) rfl w428 rfl rfl k_k45 o_k45 l_k45  (fun _ => rfl) (sd_lets (fun s46 e_s46 => ?_))
  refine sv_aload_n (pc := 76) 0 (sv_d k_Wa_init 38 rfl) rfl rfl ?_
  refine sv_sipush (pc := 77) (v := (1024 : Int32)) (sv_d k_Wa_init 39 rfl) (by decide) ?_
  refine ss_grd (fun hnb => ?_)
  refine ss_letr (fun w49 e_w49 => ?_)
  refine sv_newa (pc := 80) (kk := 20) (sv_d k_Wa_init 40 rfl) rfl wa20 hnb (sd_lets (fun s48 e_s48 => ?_))
  rw [← e_w49]
  refine sd_gd (fun k_k50 o_k50 l_k50 => ?_)
  refine sd_putRF (pc := 82) 11 (sv_d k_Wa_init 41 rfl) cf10 (by decide) rfl w429 rfl rfl k_k50 o_k50 l_k50  (fun _ => rfl) (sd_lets (fun s51 e_s51 => ?_))
  refine sv_aload_n (pc := 85) 0 (sv_d k_Wa_init 42 rfl) rfl rfl ?_
  refine sv_sipush (pc := 86) (v := (1024 : Int32)) (sv_d k_Wa_init 43 rfl) (by decide) ?_
  refine ss_grd (fun hnb => ?_)
  refine ss_letr (fun w54 e_w54 => ?_)
  refine sv_newa (pc := 89) (kk := 20) (sv_d k_Wa_init 44 rfl) rfl wa20 hnb (sd_lets (fun s53 e_s53 => ?_))
  rw [← e_w54]
  refine sd_gd (fun k_k55 o_k55 l_k55 => ?_)
  refine sd_putRF (pc := 91) 12 (sv_d k_Wa_init 45 rfl) cf10 (by decide) rfl w430 rfl rfl k_k55 o_k55 l_k55  (fun _ => rfl) (sd_lets (fun s56 e_s56 => ?_))
  refine sv_aload_n (pc := 94) 0 (sv_d k_Wa_init 46 rfl) rfl rfl ?_
  refine sv_aload_n (pc := 95) 1 (sv_d k_Wa_init 47 rfl) rfl rfl ?_
  refine sd_gd (fun k_k57 o_k57 l_k57 => ?_)
  refine sd_putRF (pc := 96) 0 (sv_d k_Wa_init 48 rfl) cf10 (by decide) rfl w418 rfl rfl k_k57 o_k57 l_k57  (fun _ => rfl) (sd_lets (fun s58 e_s58 => ?_))
  refine sv_aload_n (pc := 99) 0 (sv_d k_Wa_init 49 rfl) rfl rfl ?_
  refine sv_aload_n (pc := 100) 2 (sv_d k_Wa_init 50 rfl) rfl rfl ?_
  refine sd_gd (fun k_k59 o_k59 l_k59 => ?_)
  refine sd_putRF (pc := 101) 1 (sv_d k_Wa_init 51 rfl) cf10 (by decide) rfl w419 rfl rfl k_k59 o_k59 l_k59  (fun _ => rfl) (sd_lets (fun s60 e_s60 => ?_))
  exact sv_retv (pc := 104) (sv_d k_Wa_init 52 rfl) rfl rfl
/-! Ac_init -/
abbrev m_Ac_init : sv_M := (yX0_init, cX0_init, 1, none)
def t_Ac_init : List (Nat × Instr × Nat) := [(0, .aload_n 0, 1), (1, .invokespecial 3, 3), (4, .aload_n 0, 1), (5, .bipush 20, 2), (7, .newarray .int, 2), (9, .putfield 11, 3), (12, .return_, 1)]
theorem k_Ac_init : sv_tk m_Ac_init.2.1 t_Ac_init := by decide +kernel
theorem g_Ac_init : sv_G m_Ac_init 0 := ⟨by decide +kernel, sv_in 470 (by decide +kernel) rfl, sv_in 101 (by decide +kernel) rfl, ⟨by decide, by decide⟩, by decide +kernel, by decide⟩
theorem in_Ac_init : Cond.instanceMethod m_Ac_init.1 ∈ sv_T := sv_in 469 (by decide +kernel) rfl
def FD_Ac_init (a0 : Nat) (s : sv_H) : Option (sv_H) :=
  if sd_nb (20 : Int32) = true then
    ss_let (sv_nx s) fun w4 =>
    ss_let (sv_mk s 20 (20 : Int32).toNatClampNeg (20 : Int32).toNatClampNeg) fun s3 =>
    if sd_ok s3 a0 0 = true then
      ss_let (sv_setR s3 a0 0 (some w4)) fun s6 =>
      some s6
    else none
  else none
theorem VD_Ac_init (E : sv_E) (d : Nat) (a0 : Nat) (s : sv_H) : sv_V E m_Ac_init (d + 1) sd_v 0 (lv_args 0 [sv_r E a0]) [] s (FD_Ac_init a0 s) := by
  show sv_V E m_Ac_init (d + 1) sd_v 0 [(0, sv_r E a0)] [] s _
  unfold FD_Ac_init
  refine sv_aload_n (pc := 0) 0 (sv_d k_Ac_init 0 rfl) rfl rfl ?_
  refine sv_objInit (pc := 1) (sv_d k_Ac_init 1 rfl) w471 (Nat.le_of_ble_eq_true rfl) ?_
  refine sv_aload_n (pc := 4) 0 (sv_d k_Ac_init 2 rfl) rfl rfl ?_
  refine sv_bipush (pc := 5) (v := (20 : Int32)) (sv_d k_Ac_init 3 rfl) (by decide) ?_
  refine ss_grd (fun hnb => ?_)
  refine ss_letr (fun w4 e_w4 => ?_)
  refine sv_newa (pc := 7) (kk := 20) (sv_d k_Ac_init 4 rfl) rfl wa20 hnb (sd_lets (fun s3 e_s3 => ?_))
  rw [← e_w4]
  refine sd_gd (fun k_k5 o_k5 l_k5 => ?_)
  refine sd_putRF (pc := 9) 0 (sv_d k_Ac_init 5 rfl) cf0 (by decide) rfl w472 rfl rfl k_k5 o_k5 l_k5  (fun _ => rfl) (sd_lets (fun s6 e_s6 => ?_))
  exact sv_retv (pc := 12) (sv_d k_Ac_init 6 rfl) rfl rfl
