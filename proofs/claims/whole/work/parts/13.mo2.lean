/-! Mo_isDay -/
abbrev m_Mo_isDay : sv_M := (yX12_isDay, cX12_isDay, 2, (some .boolean))
def t_Mo_isDay : List (Nat × Instr × Nat) := [(0, .aload_n 0, 1), (1, .iload_n 1, 1), (2, .iconst 0, 1), (3, .sipush 9999, 3), (6, .invokevirtual 251, 3), (9, .ireturn, 1)]
theorem k_Mo_isDay : sv_tk m_Mo_isDay.2.1 t_Mo_isDay := by decide +kernel
theorem g_Mo_isDay : sv_G m_Mo_isDay 1 := ⟨by decide +kernel, sv_in 1597 (by decide +kernel) rfl, sv_in 103 (by decide +kernel) rfl, ⟨by decide, by decide⟩, by decide +kernel, by decide⟩
theorem in_Mo_isDay : Cond.instanceMethod m_Mo_isDay.1 ∈ sv_T := sv_in 1596 (by decide +kernel) rfl
theorem se_Mo_isDay : Cond.selects m_Mo_isDay.1.cls m_Mo_isDay.1 m_Mo_isDay.1 ∈ sv_T := sv_in 41 (by decide +kernel) rfl
def F_Mo_isDay (x1 : Int32) (s : sv_S) : Option (Int32) :=
  (F_Mo_in x1 (0 : Int32) (9999 : Int32) s).bind fun r1 =>
  if sv_bl r1 = true then some r1 else none
theorem V_Mo_isDay (E : sv_E) (d : Nat) (x1 : Int32) (s : sv_S) : sv_V E m_Mo_isDay (d + 1) (ss_pi s) 0 (lv_args 0 [sv_r E 187, .int x1]) [] (ss_e s) (F_Mo_isDay x1 s) := by
  show sv_V E m_Mo_isDay (d + 1) (ss_pi s) 0 [(0, sv_r E 187), (1, .int x1)] [] (ss_e s) _
  unfold F_Mo_isDay
  refine sv_aload_n (pc := 0) 0 (sv_d k_Mo_isDay 0 rfl) rfl rfl ?_
  refine sv_iload_n (pc := 1) 1 (sv_d k_Mo_isDay 1 rfl) rfl rfl ?_
  refine sv_iconst (pc := 2) (v := (0 : Int32)) (sv_d k_Mo_isDay 2 rfl) (by decide) ?_
  refine sv_sipush (pc := 3) (v := (9999 : Int32)) (sv_d k_Mo_isDay 3 rfl) (by decide) ?_
  refine sv_callV (pc := 6) (ψ := (ss_pi s)) (As := [.int x1, .int (0 : Int32), .int (9999 : Int32)]) (rest := []) (c := 187) (sv_d k_Mo_isDay 4 rfl) g_Mo_in w1545 in_Mo_in se_Mo_in cf12 kd187 (ss_lt (by decide)) rfl (Nat.le_of_ble_eq_true rfl) (V_Mo_in E (d + 0) x1 (0 : Int32) (9999 : Int32) s) (Nat.le_of_ble_eq_true rfl) rfl (fun r1 => ?_)
  show sv_V E _ _ _ 9 _ [.int r1] (ss_e s) _
  exact ss_grd (fun bb2 => sv_ret (pc := 9) (sv_d k_Mo_isDay 5 rfl) ⟨_, rfl, sv_bln bb2⟩ rfl)
/-! Mo_next -/
abbrev m_Mo_next : sv_M := (yX12_next, cX12_next, 1, (some .int))
def t_Mo_next : List (Nat × Instr × Nat) := [(0, .aload_n 0, 1), (1, .getfield 87, 3), (4, .aload_n 0, 1), (5, .getfield 84, 3), (8, .if_icmp .ge 20, 3), (11, .aload_n 0, 1), (12, .getfield 53, 3), (15, .aload_n 0, 1), (16, .getfield 81, 3), (19, .aload_n 0, 1), (20, .getfield 87, 3), (23, .iadd, 1), (24, .iaload, 1), (25, .goto 4, 3), (28, .iconst (-1), 1), (29, .ireturn, 1)]
theorem k_Mo_next : sv_tk m_Mo_next.2.1 t_Mo_next := by decide +kernel
theorem g_Mo_next : sv_G m_Mo_next 0 := ⟨by decide +kernel, sv_in 1609 (by decide +kernel) rfl, sv_in 103 (by decide +kernel) rfl, ⟨by decide, by decide⟩, by decide +kernel, by decide⟩
theorem in_Mo_next : Cond.instanceMethod m_Mo_next.1 ∈ sv_T := sv_in 1608 (by decide +kernel) rfl
theorem se_Mo_next : Cond.selects m_Mo_next.1.cls m_Mo_next.1 m_Mo_next.1 ∈ sv_T := sv_in 44 (by decide +kernel) rfl
def F_Mo_next (s : sv_S) : Option (Int32) :=
  if (s.1 187 24) ≤ (s.1 187 25) then
    some (-1 : Int32)
  else
  if sv_ib ((s.1 187 23) + (s.1 187 25)) 2380 = true then
    some (s.1 197 ((s.1 187 23) + (s.1 187 25)).toNatClampNeg)
  else none
theorem V_Mo_next (E : sv_E) (d : Nat) (s : sv_S) : sv_V E m_Mo_next (d + 0) (ss_pi s) 0 (lv_args 0 [sv_r E 187]) [] (ss_e s) (F_Mo_next s) := by
  show sv_V E m_Mo_next (d + 0) (ss_pi s) 0 [(0, sv_r E 187)] [] (ss_e s) _
  unfold F_Mo_next
  refine sv_aload_n (pc := 0) 0 (sv_d k_Mo_next 0 rfl) rfl rfl ?_
  refine sv_getf (pc := 1) 25 (sv_d k_Mo_next 1 rfl) cf12 (by decide) w1327 kd187 (ss_lt (by decide)) rfl ?_
  refine sv_aload_n (pc := 4) 0 (sv_d k_Mo_next 2 rfl) rfl rfl ?_
  refine sv_getf (pc := 5) 24 (sv_d k_Mo_next 3 rfl) cf12 (by decide) w1326 kd187 (ss_lt (by decide)) rfl ?_
  refine sv_icmp_ge (pc := 8) (tgt := 28) (sv_d k_Mo_next 4 rfl) (by decide) ?_ ?_
  · refine sv_iconst (pc := 28) (v := (-1 : Int32)) (sv_d k_Mo_next 14 rfl) (by decide) ?_
    exact sv_ret (pc := 29) (sv_d k_Mo_next 15 rfl) ⟨_, rfl, rfl⟩ rfl
  · refine sv_aload_n (pc := 11) 0 (sv_d k_Mo_next 5 rfl) rfl rfl ?_
    refine sv_getf (pc := 12) 14 (sv_d k_Mo_next 6 rfl) cf12 (by decide) w1316 kd187 (ss_lt (by decide)) (lr_187_14 E _) ?_
    refine sv_aload_n (pc := 15) 0 (sv_d k_Mo_next 7 rfl) rfl rfl ?_
    refine sv_getf (pc := 16) 23 (sv_d k_Mo_next 8 rfl) cf12 (by decide) w1325 kd187 (ss_lt (by decide)) rfl ?_
    refine sv_aload_n (pc := 19) 0 (sv_d k_Mo_next 9 rfl) rfl rfl ?_
    refine sv_getf (pc := 20) 25 (sv_d k_Mo_next 10 rfl) cf12 (by decide) w1327 kd187 (ss_lt (by decide)) rfl ?_
    refine sv_iadd (pc := 23) (sv_d k_Mo_next 11 rfl) ?_
    refine ss_iald (pc := 24) (n := 2380) (sv_d k_Mo_next 12 rfl) kd197 (ss_lt (by decide)) rfl ?_
    refine sv_goto (pc := 25) (tgt := 29) (sv_d k_Mo_next 13 rfl) (by decide) ?_
    exact sv_ret (pc := 29) (sv_d k_Mo_next 15 rfl) ⟨_, rfl, rfl⟩ rfl
/-! Mo_takes -/
abbrev m_Mo_takes : sv_M := (yX12_takes, cX12_takes, 2, (some .boolean))
def t_Mo_takes : List (Nat × Instr × Nat) := [(0, .aload_n 0, 1), (1, .invokevirtual 279, 3), (4, .iload_n 1, 1), (5, .if_icmp .eq 5, 3), (8, .iconst 0, 1), (9, .ireturn, 1), (10, .aload_n 0, 1), (11, .dup, 1), (12, .getfield 87, 3), (15, .iconst 1, 1), (16, .iadd, 1), (17, .putfield 87, 3), (20, .iconst 1, 1), (21, .ireturn, 1)]
theorem k_Mo_takes : sv_tk m_Mo_takes.2.1 t_Mo_takes := by decide +kernel
theorem g_Mo_takes : sv_G m_Mo_takes 1 := ⟨by decide +kernel, sv_in 1619 (by decide +kernel) rfl, sv_in 103 (by decide +kernel) rfl, ⟨by decide, by decide⟩, by decide +kernel, by decide⟩
theorem in_Mo_takes : Cond.instanceMethod m_Mo_takes.1 ∈ sv_T := sv_in 1618 (by decide +kernel) rfl
theorem se_Mo_takes : Cond.selects m_Mo_takes.1.cls m_Mo_takes.1 m_Mo_takes.1 ∈ sv_T := sv_in 46 (by decide +kernel) rfl
def F_Mo_takes (x1 : Int32) (s : sv_S) : Option (Int32 × sv_S) :=
  (F_Mo_next s).bind fun r1 =>
  if r1 = x1 then
    ss_let (ss_setI s 187 25 ((s.1 187 25) + (1 : Int32))) fun s2 =>
    some ((1 : Int32), s2)
  else
  some ((0 : Int32), s)
theorem V_Mo_takes (E : sv_E) (d : Nat) (x1 : Int32) (s : sv_S) : sv_V E m_Mo_takes (d + 1) ss_i 0 (lv_args 0 [sv_r E 187, .int x1]) [] (ss_e s) (F_Mo_takes x1 s) := by
  show sv_V E m_Mo_takes (d + 1) ss_i 0 [(0, sv_r E 187), (1, .int x1)] [] (ss_e s) _
  unfold F_Mo_takes
  refine sv_aload_n (pc := 0) 0 (sv_d k_Mo_takes 0 rfl) rfl rfl ?_
  refine sv_callV (pc := 1) (ψ := (ss_pi s)) (As := []) (rest := []) (c := 187) (sv_d k_Mo_takes 1 rfl) g_Mo_next w1606 in_Mo_next se_Mo_next cf12 kd187 (ss_lt (by decide)) rfl (Nat.le_of_ble_eq_true rfl) (V_Mo_next E (d + 0) s) (Nat.le_of_ble_eq_true rfl) rfl (fun r1 => ?_)
  show sv_V E _ _ _ 4 _ [.int r1] (ss_e s) _
  refine sv_iload_n (pc := 4) 1 (sv_d k_Mo_takes 2 rfl) rfl rfl ?_
  refine sv_icmp_eq (pc := 5) (tgt := 10) (sv_d k_Mo_takes 3 rfl) (by decide) ?_ ?_
  · refine sv_aload_n (pc := 10) 0 (sv_d k_Mo_takes 6 rfl) rfl rfl ?_
    refine sv_dup (pc := 11) (sv_d k_Mo_takes 7 rfl) rfl ?_
    refine sv_getf (pc := 12) 25 (sv_d k_Mo_takes 8 rfl) cf12 (by decide) w1327 kd187 (ss_lt (by decide)) rfl ?_
    refine sv_iconst (pc := 15) (v := (1 : Int32)) (sv_d k_Mo_takes 9 rfl) (by decide) ?_
    refine sv_iadd (pc := 16) (sv_d k_Mo_takes 10 rfl) ?_
    refine ss_putI (pc := 17) 25 (sv_d k_Mo_takes 11 rfl) cf12 (by decide) rfl w1327 kd187 (ss_lt (by decide)) rfl rfl (fun _ => rfl) (ss_lets (fun s2 e_s2 => ?_))
    refine sv_iconst (pc := 20) (v := (1 : Int32)) (sv_d k_Mo_takes 12 rfl) (by decide) ?_
    exact sv_ret (pc := 21) (sv_d k_Mo_takes 13 rfl) ⟨_, rfl, rfl⟩ rfl
  · refine sv_iconst (pc := 8) (v := (0 : Int32)) (sv_d k_Mo_takes 4 rfl) (by decide) ?_
    exact sv_ret (pc := 9) (sv_d k_Mo_takes 5 rfl) ⟨_, rfl, rfl⟩ rfl
/-! Mo_takesWord -/
abbrev m_Mo_takesWord : sv_M := (yX12_takesWord, cX12_takesWord, 5, (some .boolean))
def t_Mo_takesWord : List (Nat × Instr × Nat) := [(0, .iload_n 3, 1), (1, .iconst 1, 1), (2, .isub, 1), (3, .istore 4, 2), (5, .iload 4, 2), (7, .ifCond .lt 32, 3), (10, .aload_n 0, 1), (11, .bipush 96, 2), (13, .lload_n 1, 1), (14, .iconst 5, 1), (15, .iload 4, 2), (17, .imul, 1), (18, .lshr, 1), (19, .ldc2_w 283, 3), (22, .land, 1), (23, .l2i, 1), (24, .iadd, 1), (25, .invokevirtual 285, 3), (28, .ifCond .ne 5, 3), (31, .iconst 0, 1), (32, .ireturn, 1), (33, .iinc 4 (-1), 3), (36, .goto (-31), 3), (39, .iconst 1, 1), (40, .ireturn, 1)]
theorem k_Mo_takesWord : sv_tk m_Mo_takesWord.2.1 t_Mo_takesWord := by decide +kernel
theorem g_Mo_takesWord : sv_G m_Mo_takesWord 2 := ⟨by decide +kernel, sv_in 1614 (by decide +kernel) rfl, sv_in 103 (by decide +kernel) rfl, ⟨by decide, by decide⟩, by decide +kernel, by decide⟩
theorem in_Mo_takesWord : Cond.instanceMethod m_Mo_takesWord.1 ∈ sv_T := sv_in 1613 (by decide +kernel) rfl
theorem se_Mo_takesWord : Cond.selects m_Mo_takesWord.1.cls m_Mo_takesWord.1 m_Mo_takesWord.1 ∈ sv_T := sv_in 45 (by decide +kernel) rfl
def F_Mo_takesWord_b5 : Nat → Int64 → Int32 → sv_S → Option (Int32 × sv_S)
  | 0 => fun _ _ _ => none
  | n + 1 => fun y1 x4 s =>
    if x4 < 0 then
      some ((1 : Int32), s)
    else
    (F_Mo_takes ((96 : Int32) + (((y1 >>> (((5 : Int32) * x4).toInt64 &&& 63)) &&& (31 : Int64)).toInt32)) s).bind fun r2 =>
    if r2.1 = 0 then
      some ((0 : Int32), r2.2)
    else
    ss_let (x4 + (-1 : Int32)) fun v3 =>
    F_Mo_takesWord_b5  n y1 v3 r2.2
theorem V_Mo_takesWord_b5 (E : sv_E) (d : Nat) : ∀ (n : Nat) (y1 : Int64) (x4 : Int32) (s : sv_S), sv_V E m_Mo_takesWord (d + 2) ss_i 5 [(0, sv_r E 187), (1, .long y1), (4, .int x4)] [] (ss_e s) (F_Mo_takesWord_b5 n y1 x4 s) := by
  intro n
  induction n with
  | zero => intro y1 x4 s; exact sv_none
  | succ n ih =>
    intro y1 x4 s
    unfold F_Mo_takesWord_b5
    refine sv_iload (pc := 5) 2 (sv_d k_Mo_takesWord 4 rfl) rfl ?_
    refine sv_if_lt (pc := 7) (tgt := 39) (sv_d k_Mo_takesWord 5 rfl) (by decide) ?_ ?_
    · refine sv_iconst (pc := 39) (v := (1 : Int32)) (sv_d k_Mo_takesWord 23 rfl) (by decide) ?_
      exact sv_ret (pc := 40) (sv_d k_Mo_takesWord 24 rfl) ⟨_, rfl, rfl⟩ rfl
    · refine sv_aload_n (pc := 10) 0 (sv_d k_Mo_takesWord 6 rfl) rfl rfl ?_
      refine sv_bipush (pc := 11) (v := (96 : Int32)) (sv_d k_Mo_takesWord 7 rfl) (by decide) ?_
      refine sv_lload_n (pc := 13) 1 (sv_d k_Mo_takesWord 8 rfl) rfl rfl ?_
      refine sv_iconst (pc := 14) (v := (5 : Int32)) (sv_d k_Mo_takesWord 9 rfl) (by decide) ?_
      refine sv_iload (pc := 15) 2 (sv_d k_Mo_takesWord 10 rfl) rfl ?_
      refine sv_imul (pc := 17) (sv_d k_Mo_takesWord 11 rfl) ?_
      refine sv_lshr (pc := 18) (sv_d k_Mo_takesWord 12 rfl) ?_
      refine sv_ldc2 (pc := 19) (v := (31 : Int64)) w1615 (sv_d k_Mo_takesWord 13 rfl) ?_
      refine sv_land (pc := 22) (sv_d k_Mo_takesWord 14 rfl) ?_
      refine sv_l2i (pc := 23) (sv_d k_Mo_takesWord 15 rfl) ?_
      refine sv_iadd (pc := 24) (sv_d k_Mo_takesWord 16 rfl) ?_
      refine sv_callV (pc := 25) (ψ := ss_i) (As := [.int ((96 : Int32) + (((y1 >>> (((5 : Int32) * x4).toInt64 &&& 63)) &&& (31 : Int64)).toInt32))]) (rest := []) (c := 187) (sv_d k_Mo_takesWord 17 rfl) g_Mo_takes w1616 in_Mo_takes se_Mo_takes cf12 kd187 (ss_lt (by decide)) rfl (Nat.le_of_ble_eq_true rfl) (V_Mo_takes E (d + 0) ((96 : Int32) + (((y1 >>> (((5 : Int32) * x4).toInt64 &&& 63)) &&& (31 : Int64)).toInt32)) s) (Nat.le_of_ble_eq_true rfl) rfl (fun r2 => ?_)
      show sv_V E _ _ _ 28 _ [.int r2.1] (ss_e r2.2) _
      refine sv_if_ne (pc := 28) (tgt := 33) (sv_d k_Mo_takesWord 18 rfl) (by decide) ?_ ?_
      · refine ss_letr (fun v3 e_v3 => ?_)
        refine sv_iinc (pc := 33) (v := v3) (lv' := [(4, .int v3), (0, sv_r E 187), (1, .long y1)]) (sv_d k_Mo_takesWord 21 rfl) (n := 2) rfl (by rw [e_v3]; rfl) (by decide) rfl ?_
        refine sv_goto (pc := 36) (tgt := 5) (sv_d k_Mo_takesWord 22 rfl) (by decide) ?_
        exact sv_loc [1, 2, 0] rfl (ih y1 v3 r2.2)
      · refine sv_iconst (pc := 31) (v := (0 : Int32)) (sv_d k_Mo_takesWord 19 rfl) (by decide) ?_
        exact sv_ret (pc := 32) (sv_d k_Mo_takesWord 20 rfl) ⟨_, rfl, rfl⟩ rfl
def F_Mo_takesWord (y1 : Int64) (x3 : Int32) (s : sv_S) : Option (Int32 × sv_S) :=
  ss_let (x3 - (1 : Int32)) fun v1 =>
  F_Mo_takesWord_b5 ss_F y1 v1 s
theorem V_Mo_takesWord (E : sv_E) (d : Nat) (y1 : Int64) (x3 : Int32) (s : sv_S) : sv_V E m_Mo_takesWord (d + 2) ss_i 0 (lv_args 0 [sv_r E 187, .long y1, .int x3]) [] (ss_e s) (F_Mo_takesWord y1 x3 s) := by
  show sv_V E m_Mo_takesWord (d + 2) ss_i 0 [(0, sv_r E 187), (1, .long y1), (3, .int x3)] [] (ss_e s) _
  unfold F_Mo_takesWord
  refine sv_iload_n (pc := 0) 2 (sv_d k_Mo_takesWord 0 rfl) rfl rfl ?_
  refine sv_iconst (pc := 1) (v := (1 : Int32)) (sv_d k_Mo_takesWord 1 rfl) (by decide) ?_
  refine sv_isub (pc := 2) (sv_d k_Mo_takesWord 2 rfl) ?_
  refine ss_top (fun v1 e_v1 => ?_)
  refine sv_istore (pc := 3) (lv' := [(4, .int v1), (0, sv_r E 187), (1, .long y1), (3, .int x3)]) (sv_d k_Mo_takesWord 3 rfl) (by decide) rfl ?_
  exact sv_loc [1, 2, 0] rfl (V_Mo_takesWord_b5 E d ss_F y1 v1 s)
/-! Mo_isDigit -/
abbrev m_Mo_isDigit : sv_M := (yX12_isDigit, cX12_isDigit, 1, (some .boolean))
def t_Mo_isDigit : List (Nat × Instr × Nat) := [(0, .aload_n 0, 1), (1, .aload_n 0, 1), (2, .invokevirtual 279, 3), (5, .bipush 48, 2), (7, .bipush 57, 2), (9, .invokevirtual 251, 3), (12, .ireturn, 1)]
theorem k_Mo_isDigit : sv_tk m_Mo_isDigit.2.1 t_Mo_isDigit := by decide +kernel
theorem g_Mo_isDigit : sv_G m_Mo_isDigit 0 := ⟨by decide +kernel, sv_in 1631 (by decide +kernel) rfl, sv_in 103 (by decide +kernel) rfl, ⟨by decide, by decide⟩, by decide +kernel, by decide⟩
theorem in_Mo_isDigit : Cond.instanceMethod m_Mo_isDigit.1 ∈ sv_T := sv_in 1630 (by decide +kernel) rfl
theorem se_Mo_isDigit : Cond.selects m_Mo_isDigit.1.cls m_Mo_isDigit.1 m_Mo_isDigit.1 ∈ sv_T := sv_in 49 (by decide +kernel) rfl
def F_Mo_isDigit (s : sv_S) : Option (Int32) :=
  (F_Mo_next s).bind fun r1 =>
  (F_Mo_in r1 (48 : Int32) (57 : Int32) s).bind fun r2 =>
  if sv_bl r2 = true then some r2 else none
theorem V_Mo_isDigit (E : sv_E) (d : Nat) (s : sv_S) : sv_V E m_Mo_isDigit (d + 1) (ss_pi s) 0 (lv_args 0 [sv_r E 187]) [] (ss_e s) (F_Mo_isDigit s) := by
  show sv_V E m_Mo_isDigit (d + 1) (ss_pi s) 0 [(0, sv_r E 187)] [] (ss_e s) _
  unfold F_Mo_isDigit
  refine sv_aload_n (pc := 0) 0 (sv_d k_Mo_isDigit 0 rfl) rfl rfl ?_
  refine sv_aload_n (pc := 1) 0 (sv_d k_Mo_isDigit 1 rfl) rfl rfl ?_
  refine sv_callV (pc := 2) (ψ := (ss_pi s)) (As := []) (rest := [sv_r E 187]) (c := 187) (sv_d k_Mo_isDigit 2 rfl) g_Mo_next w1606 in_Mo_next se_Mo_next cf12 kd187 (ss_lt (by decide)) rfl (Nat.le_of_ble_eq_true rfl) (V_Mo_next E (d + 0) s) (Nat.le_of_ble_eq_true rfl) rfl (fun r1 => ?_)
  show sv_V E _ _ _ 5 _ [.int r1, sv_r E 187] (ss_e s) _
  refine sv_bipush (pc := 5) (v := (48 : Int32)) (sv_d k_Mo_isDigit 3 rfl) (by decide) ?_
  refine sv_bipush (pc := 7) (v := (57 : Int32)) (sv_d k_Mo_isDigit 4 rfl) (by decide) ?_
  refine sv_callV (pc := 9) (ψ := (ss_pi s)) (As := [.int r1, .int (48 : Int32), .int (57 : Int32)]) (rest := []) (c := 187) (sv_d k_Mo_isDigit 5 rfl) g_Mo_in w1545 in_Mo_in se_Mo_in cf12 kd187 (ss_lt (by decide)) rfl (Nat.le_of_ble_eq_true rfl) (V_Mo_in E (d + 0) r1 (48 : Int32) (57 : Int32) s) (Nat.le_of_ble_eq_true rfl) rfl (fun r2 => ?_)
  show sv_V E _ _ _ 12 _ [.int r2] (ss_e s) _
  exact ss_grd (fun bb3 => sv_ret (pc := 12) (sv_d k_Mo_isDigit 6 rfl) ⟨_, rfl, sv_bln bb3⟩ rfl)
/-! Mo_takesNumber -/
abbrev m_Mo_takesNumber : sv_M := (yX12_takesNumber, cX12_takesNumber, 2, (some .boolean))
def t_Mo_takesNumber : List (Nat × Instr × Nat) := [(0, .aload_n 0, 1), (1, .invokevirtual 288, 3), (4, .ifCond .ne 5, 3), (7, .iconst 0, 1), (8, .ireturn, 1), (9, .aload_n 0, 1), (10, .iconst 0, 1), (11, .putfield 90, 3), (14, .iconst 0, 1), (15, .istore_n 1, 1), (16, .iload_n 1, 1), (17, .iconst 4, 1), (18, .if_icmp .ge 45, 3), (21, .aload_n 0, 1), (22, .invokevirtual 288, 3), (25, .ifCond .eq 38, 3), (28, .aload_n 0, 1), (29, .bipush 10, 2), (31, .aload_n 0, 1), (32, .getfield 90, 3), (35, .imul, 1), (36, .aload_n 0, 1), (37, .invokevirtual 279, 3), (40, .iadd, 1), (41, .bipush 48, 2), (43, .isub, 1), (44, .putfield 90, 3), (47, .aload_n 0, 1), (48, .dup, 1), (49, .getfield 87, 3), (52, .iconst 1, 1), (53, .iadd, 1), (54, .putfield 87, 3), (57, .iinc 1 1, 3), (60, .goto (-44), 3), (63, .iconst 1, 1), (64, .ireturn, 1)]
theorem k_Mo_takesNumber : sv_tk m_Mo_takesNumber.2.1 t_Mo_takesNumber := by decide +kernel
theorem g_Mo_takesNumber : sv_G m_Mo_takesNumber 0 := ⟨by decide +kernel, sv_in 1627 (by decide +kernel) rfl, sv_in 103 (by decide +kernel) rfl, ⟨by decide, by decide⟩, by decide +kernel, by decide⟩
theorem in_Mo_takesNumber : Cond.instanceMethod m_Mo_takesNumber.1 ∈ sv_T := sv_in 1626 (by decide +kernel) rfl
theorem se_Mo_takesNumber : Cond.selects m_Mo_takesNumber.1.cls m_Mo_takesNumber.1 m_Mo_takesNumber.1 ∈ sv_T := sv_in 48 (by decide +kernel) rfl
def F_Mo_takesNumber_b16 : Nat → Int32 → sv_S → Option (Int32 × sv_S)
  | 0 => fun _ _ => none
  | n + 1 => fun x1 s =>
    if (4 : Int32) ≤ x1 then
      some ((1 : Int32), s)
    else
    (F_Mo_isDigit s).bind fun r3 =>
    if r3 = 0 then
      some ((1 : Int32), s)
    else
    (F_Mo_next s).bind fun r4 =>
    ss_let (ss_setI s 187 26 ((((10 : Int32) * (s.1 187 26)) + r4) - (48 : Int32))) fun s5 =>
    ss_let (ss_setI s5 187 25 ((s5.1 187 25) + (1 : Int32))) fun s6 =>
    ss_let (x1 + (1 : Int32)) fun v7 =>
    F_Mo_takesNumber_b16  n v7 s6
theorem V_Mo_takesNumber_b16 (E : sv_E) (d : Nat) : ∀ (n : Nat) (x1 : Int32) (s : sv_S), sv_V E m_Mo_takesNumber (d + 2) ss_i 16 [(0, sv_r E 187), (1, .int x1)] [] (ss_e s) (F_Mo_takesNumber_b16 n x1 s) := by
  intro n
  induction n with
  | zero => intro x1 s; exact sv_none
  | succ n ih =>
    intro x1 s
    unfold F_Mo_takesNumber_b16
    refine sv_iload_n (pc := 16) 1 (sv_d k_Mo_takesNumber 10 rfl) rfl rfl ?_
    refine sv_iconst (pc := 17) (v := (4 : Int32)) (sv_d k_Mo_takesNumber 11 rfl) (by decide) ?_
    refine sv_icmp_ge (pc := 18) (tgt := 63) (sv_d k_Mo_takesNumber 12 rfl) (by decide) ?_ ?_
    · refine sv_iconst (pc := 63) (v := (1 : Int32)) (sv_d k_Mo_takesNumber 35 rfl) (by decide) ?_
      exact sv_ret (pc := 64) (sv_d k_Mo_takesNumber 36 rfl) ⟨_, rfl, rfl⟩ rfl
    · refine sv_aload_n (pc := 21) 0 (sv_d k_Mo_takesNumber 13 rfl) rfl rfl ?_
      refine sv_callV (pc := 22) (ψ := (ss_pi s)) (As := []) (rest := []) (c := 187) (sv_d k_Mo_takesNumber 14 rfl) g_Mo_isDigit w1628 in_Mo_isDigit se_Mo_isDigit cf12 kd187 (ss_lt (by decide)) rfl (Nat.le_of_ble_eq_true rfl) (V_Mo_isDigit E (d + 0) s) (Nat.le_of_ble_eq_true rfl) rfl (fun r3 => ?_)
      show sv_V E _ _ _ 25 _ [.int r3] (ss_e s) _
      refine sv_if_eq (pc := 25) (tgt := 63) (sv_d k_Mo_takesNumber 15 rfl) (by decide) ?_ ?_
      · refine sv_iconst (pc := 63) (v := (1 : Int32)) (sv_d k_Mo_takesNumber 35 rfl) (by decide) ?_
        exact sv_ret (pc := 64) (sv_d k_Mo_takesNumber 36 rfl) ⟨_, rfl, rfl⟩ rfl
      · refine sv_aload_n (pc := 28) 0 (sv_d k_Mo_takesNumber 16 rfl) rfl rfl ?_
        refine sv_bipush (pc := 29) (v := (10 : Int32)) (sv_d k_Mo_takesNumber 17 rfl) (by decide) ?_
        refine sv_aload_n (pc := 31) 0 (sv_d k_Mo_takesNumber 18 rfl) rfl rfl ?_
        refine sv_getf (pc := 32) 26 (sv_d k_Mo_takesNumber 19 rfl) cf12 (by decide) w1328 kd187 (ss_lt (by decide)) rfl ?_
        refine sv_imul (pc := 35) (sv_d k_Mo_takesNumber 20 rfl) ?_
        refine sv_aload_n (pc := 36) 0 (sv_d k_Mo_takesNumber 21 rfl) rfl rfl ?_
        refine sv_callV (pc := 37) (ψ := (ss_pi s)) (As := []) (rest := [.int ((10 : Int32) * (s.1 187 26)), sv_r E 187]) (c := 187) (sv_d k_Mo_takesNumber 22 rfl) g_Mo_next w1606 in_Mo_next se_Mo_next cf12 kd187 (ss_lt (by decide)) rfl (Nat.le_of_ble_eq_true rfl) (V_Mo_next E (d + 1) s) (Nat.le_of_ble_eq_true rfl) rfl (fun r4 => ?_)
        show sv_V E _ _ _ 40 _ [.int r4, .int ((10 : Int32) * (s.1 187 26)), sv_r E 187] (ss_e s) _
        refine sv_iadd (pc := 40) (sv_d k_Mo_takesNumber 23 rfl) ?_
        refine sv_bipush (pc := 41) (v := (48 : Int32)) (sv_d k_Mo_takesNumber 24 rfl) (by decide) ?_
        refine sv_isub (pc := 43) (sv_d k_Mo_takesNumber 25 rfl) ?_
        refine ss_putI (pc := 44) 26 (sv_d k_Mo_takesNumber 26 rfl) cf12 (by decide) rfl w1328 kd187 (ss_lt (by decide)) rfl rfl (fun _ => rfl) (ss_lets (fun s5 e_s5 => ?_))
        refine sv_aload_n (pc := 47) 0 (sv_d k_Mo_takesNumber 27 rfl) rfl rfl ?_
        refine sv_dup (pc := 48) (sv_d k_Mo_takesNumber 28 rfl) rfl ?_
        refine sv_getf (pc := 49) 25 (sv_d k_Mo_takesNumber 29 rfl) cf12 (by decide) w1327 kd187 (ss_lt (by decide)) rfl ?_
        refine sv_iconst (pc := 52) (v := (1 : Int32)) (sv_d k_Mo_takesNumber 30 rfl) (by decide) ?_
        refine sv_iadd (pc := 53) (sv_d k_Mo_takesNumber 31 rfl) ?_
        refine ss_putI (pc := 54) 25 (sv_d k_Mo_takesNumber 32 rfl) cf12 (by decide) rfl w1327 kd187 (ss_lt (by decide)) rfl rfl (fun _ => rfl) (ss_lets (fun s6 e_s6 => ?_))
        refine ss_letr (fun v7 e_v7 => ?_)
        refine sv_iinc (pc := 57) (v := v7) (lv' := [(1, .int v7), (0, sv_r E 187)]) (sv_d k_Mo_takesNumber 33 rfl) (n := 1) rfl (by rw [e_v7]; rfl) (by decide) rfl ?_
        refine sv_goto (pc := 60) (tgt := 16) (sv_d k_Mo_takesNumber 34 rfl) (by decide) ?_
        exact sv_loc [1, 0] rfl (ih v7 s6)
def F_Mo_takesNumber (s : sv_S) : Option (Int32 × sv_S) :=
  (F_Mo_isDigit s).bind fun r1 =>
  if r1 = 0 then
    some ((0 : Int32), s)
  else
  ss_let (ss_setI s 187 26 (0 : Int32)) fun s2 =>
  F_Mo_takesNumber_b16 ss_F (0 : Int32) s2
theorem V_Mo_takesNumber (E : sv_E) (d : Nat) (s : sv_S) : sv_V E m_Mo_takesNumber (d + 2) ss_i 0 (lv_args 0 [sv_r E 187]) [] (ss_e s) (F_Mo_takesNumber s) := by
  show sv_V E m_Mo_takesNumber (d + 2) ss_i 0 [(0, sv_r E 187)] [] (ss_e s) _
  unfold F_Mo_takesNumber
  refine sv_aload_n (pc := 0) 0 (sv_d k_Mo_takesNumber 0 rfl) rfl rfl ?_
  refine sv_callV (pc := 1) (ψ := (ss_pi s)) (As := []) (rest := []) (c := 187) (sv_d k_Mo_takesNumber 1 rfl) g_Mo_isDigit w1628 in_Mo_isDigit se_Mo_isDigit cf12 kd187 (ss_lt (by decide)) rfl (Nat.le_of_ble_eq_true rfl) (V_Mo_isDigit E (d + 0) s) (Nat.le_of_ble_eq_true rfl) rfl (fun r1 => ?_)
  show sv_V E _ _ _ 4 _ [.int r1] (ss_e s) _
  refine sv_if_ne (pc := 4) (tgt := 9) (sv_d k_Mo_takesNumber 2 rfl) (by decide) ?_ ?_
  · refine sv_aload_n (pc := 9) 0 (sv_d k_Mo_takesNumber 5 rfl) rfl rfl ?_
    refine sv_iconst (pc := 10) (v := (0 : Int32)) (sv_d k_Mo_takesNumber 6 rfl) (by decide) ?_
    refine ss_putI (pc := 11) 26 (sv_d k_Mo_takesNumber 7 rfl) cf12 (by decide) rfl w1328 kd187 (ss_lt (by decide)) rfl rfl (fun _ => rfl) (ss_lets (fun s2 e_s2 => ?_))
    refine sv_iconst (pc := 14) (v := (0 : Int32)) (sv_d k_Mo_takesNumber 8 rfl) (by decide) ?_
    refine sv_istore_n (pc := 15) (lv' := [(1, .int (0 : Int32)), (0, sv_r E 187)]) (sv_d k_Mo_takesNumber 9 rfl) rfl (by decide) rfl ?_
    exact sv_loc [1, 0] rfl (V_Mo_takesNumber_b16 E d ss_F (0 : Int32) s2)
  · refine sv_iconst (pc := 7) (v := (0 : Int32)) (sv_d k_Mo_takesNumber 3 rfl) (by decide) ?_
    exact sv_ret (pc := 8) (sv_d k_Mo_takesNumber 4 rfl) ⟨_, rfl, rfl⟩ rfl
/-! Mo_takesPlain -/
abbrev m_Mo_takesPlain : sv_M := (yX12_takesPlain, cX12_takesPlain, 2, (some .boolean))
def t_Mo_takesPlain : List (Nat × Instr × Nat) := [(0, .aload_n 0, 1), (1, .bipush 32, 2), (3, .invokevirtual 285, 3), (6, .ifCond .eq 10, 3), (9, .aload_n 0, 1), (10, .invokevirtual 296, 3), (13, .ifCond .ne 5, 3), (16, .iconst 0, 1), (17, .ireturn, 1), (18, .aload_n 0, 1), (19, .getfield 65, 3), (22, .iload_n 1, 1), (23, .aload_n 0, 1), (24, .getfield 90, 3), (27, .iastore, 1), (28, .iconst 1, 1), (29, .ireturn, 1)]
theorem k_Mo_takesPlain : sv_tk m_Mo_takesPlain.2.1 t_Mo_takesPlain := by decide +kernel
theorem g_Mo_takesPlain : sv_G m_Mo_takesPlain 1 := ⟨by decide +kernel, sv_in 1623 (by decide +kernel) rfl, sv_in 103 (by decide +kernel) rfl, ⟨by decide, by decide⟩, by decide +kernel, by decide⟩
theorem in_Mo_takesPlain : Cond.instanceMethod m_Mo_takesPlain.1 ∈ sv_T := sv_in 1622 (by decide +kernel) rfl
theorem se_Mo_takesPlain : Cond.selects m_Mo_takesPlain.1.cls m_Mo_takesPlain.1 m_Mo_takesPlain.1 ∈ sv_T := sv_in 47 (by decide +kernel) rfl
def F_Mo_takesPlain (x1 : Int32) (s : sv_S) : Option (Int32 × sv_S) :=
  (F_Mo_takes (32 : Int32) s).bind fun r1 =>
  if r1.1 = 0 then
    some ((0 : Int32), r1.2)
  else
  (F_Mo_takesNumber r1.2).bind fun r2 =>
  if r2.1 = 0 then
    some ((0 : Int32), r2.2)
  else
  if sv_ib x1 5 = true then
    ss_let (ss_setI r2.2 201 x1.toNatClampNeg (r2.2.1 187 26)) fun s3 =>
    some ((1 : Int32), s3)
  else none
theorem V_Mo_takesPlain (E : sv_E) (d : Nat) (x1 : Int32) (s : sv_S) : sv_V E m_Mo_takesPlain (d + 3) ss_i 0 (lv_args 0 [sv_r E 187, .int x1]) [] (ss_e s) (F_Mo_takesPlain x1 s) := by
  show sv_V E m_Mo_takesPlain (d + 3) ss_i 0 [(0, sv_r E 187), (1, .int x1)] [] (ss_e s) _
  unfold F_Mo_takesPlain
  refine sv_aload_n (pc := 0) 0 (sv_d k_Mo_takesPlain 0 rfl) rfl rfl ?_
  refine sv_bipush (pc := 1) (v := (32 : Int32)) (sv_d k_Mo_takesPlain 1 rfl) (by decide) ?_
  refine sv_callV (pc := 3) (ψ := ss_i) (As := [.int (32 : Int32)]) (rest := []) (c := 187) (sv_d k_Mo_takesPlain 2 rfl) g_Mo_takes w1616 in_Mo_takes se_Mo_takes cf12 kd187 (ss_lt (by decide)) rfl (Nat.le_of_ble_eq_true rfl) (V_Mo_takes E (d + 1) (32 : Int32) s) (Nat.le_of_ble_eq_true rfl) rfl (fun r1 => ?_)
  show sv_V E _ _ _ 6 _ [.int r1.1] (ss_e r1.2) _
  refine sv_if_eq (pc := 6) (tgt := 16) (sv_d k_Mo_takesPlain 3 rfl) (by decide) ?_ ?_
  · refine sv_iconst (pc := 16) (v := (0 : Int32)) (sv_d k_Mo_takesPlain 7 rfl) (by decide) ?_
    exact sv_ret (pc := 17) (sv_d k_Mo_takesPlain 8 rfl) ⟨_, rfl, rfl⟩ rfl
  · refine sv_aload_n (pc := 9) 0 (sv_d k_Mo_takesPlain 4 rfl) rfl rfl ?_
    refine sv_callV (pc := 10) (ψ := ss_i) (As := []) (rest := []) (c := 187) (sv_d k_Mo_takesPlain 5 rfl) g_Mo_takesNumber w1624 in_Mo_takesNumber se_Mo_takesNumber cf12 kd187 (ss_lt (by decide)) rfl (Nat.le_of_ble_eq_true rfl) (V_Mo_takesNumber E (d + 0) r1.2) (Nat.le_of_ble_eq_true rfl) rfl (fun r2 => ?_)
    show sv_V E _ _ _ 13 _ [.int r2.1] (ss_e r2.2) _
    refine sv_if_ne (pc := 13) (tgt := 18) (sv_d k_Mo_takesPlain 6 rfl) (by decide) ?_ ?_
    · refine sv_aload_n (pc := 18) 0 (sv_d k_Mo_takesPlain 9 rfl) rfl rfl ?_
      refine sv_getf (pc := 19) 18 (sv_d k_Mo_takesPlain 10 rfl) cf12 (by decide) w1320 kd187 (ss_lt (by decide)) (lr_187_18 E _) ?_
      refine sv_iload_n (pc := 22) 1 (sv_d k_Mo_takesPlain 11 rfl) rfl rfl ?_
      refine sv_aload_n (pc := 23) 0 (sv_d k_Mo_takesPlain 12 rfl) rfl rfl ?_
      refine sv_getf (pc := 24) 26 (sv_d k_Mo_takesPlain 13 rfl) cf12 (by decide) w1328 kd187 (ss_lt (by decide)) rfl ?_
      refine ss_iast (pc := 27) (n := 5) (sv_d k_Mo_takesPlain 14 rfl) kd201 (by decide) (ss_lt (by decide)) rfl (ss_lets (fun s3 e_s3 => ?_))
      refine sv_iconst (pc := 28) (v := (1 : Int32)) (sv_d k_Mo_takesPlain 15 rfl) (by decide) ?_
      exact sv_ret (pc := 29) (sv_d k_Mo_takesPlain 16 rfl) ⟨_, rfl, rfl⟩ rfl
    · refine sv_iconst (pc := 16) (v := (0 : Int32)) (sv_d k_Mo_takesPlain 7 rfl) (by decide) ?_
      exact sv_ret (pc := 17) (sv_d k_Mo_takesPlain 8 rfl) ⟨_, rfl, rfl⟩ rfl
/-! Mo_takesGood -/
abbrev m_Mo_takesGood : sv_M := (yX12_takesGood, cX12_takesGood, 2, (some .boolean))
def t_Mo_takesGood : List (Nat × Instr × Nat) := [(0, .aload_n 0, 1), (1, .bipush 32, 2), (3, .invokevirtual 285, 3), (6, .ifCond .eq 10, 3), (9, .aload_n 0, 1), (10, .invokevirtual 288, 3), (13, .ifCond .ne 5, 3), (16, .iconst 0, 1), (17, .ireturn, 1), (18, .aload_n 0, 1), (19, .invokevirtual 279, 3), (22, .bipush 48, 2), (24, .isub, 1), (25, .istore_n 1, 1), (26, .aload_n 0, 1), (27, .dup, 1), (28, .getfield 87, 3), (31, .iconst 1, 1), (32, .iadd, 1), (33, .putfield 87, 3), (36, .iload_n 1, 1), (37, .iconst 1, 1), (38, .if_icmp .ne 31, 3), (41, .aload_n 0, 1), (42, .invokevirtual 288, 3), (45, .ifCond .eq 24, 3), (48, .bipush 10, 2), (50, .aload_n 0, 1), (51, .invokevirtual 279, 3), (54, .iadd, 1), (55, .bipush 48, 2), (57, .isub, 1), (58, .istore_n 1, 1), (59, .aload_n 0, 1), (60, .dup, 1), (61, .getfield 87, 3), (64, .iconst 1, 1), (65, .iadd, 1), (66, .putfield 87, 3), (69, .aload_n 0, 1), (70, .bipush 32, 2), (72, .invokevirtual 285, 3), (75, .ifCond .eq 10, 3), (78, .aload_n 0, 1), (79, .invokevirtual 288, 3), (82, .ifCond .ne 5, 3), (85, .iconst 0, 1), (86, .ireturn, 1), (87, .aload_n 0, 1), (88, .getfield 59, 3), (91, .iload_n 1, 1), (92, .aload_n 0, 1), (93, .invokevirtual 279, 3), (96, .bipush 48, 2), (98, .isub, 1), (99, .iastore, 1), (100, .aload_n 0, 1), (101, .dup, 1), (102, .getfield 87, 3), (105, .iconst 1, 1), (106, .iadd, 1), (107, .putfield 87, 3), (110, .iconst 1, 1), (111, .ireturn, 1)]
theorem k_Mo_takesGood : sv_tk m_Mo_takesGood.2.1 t_Mo_takesGood := by decide +kernel
theorem g_Mo_takesGood : sv_G m_Mo_takesGood 0 := ⟨by decide +kernel, sv_in 1636 (by decide +kernel) rfl, sv_in 103 (by decide +kernel) rfl, ⟨by decide, by decide⟩, by decide +kernel, by decide⟩
theorem in_Mo_takesGood : Cond.instanceMethod m_Mo_takesGood.1 ∈ sv_T := sv_in 1635 (by decide +kernel) rfl
theorem se_Mo_takesGood : Cond.selects m_Mo_takesGood.1.cls m_Mo_takesGood.1 m_Mo_takesGood.1 ∈ sv_T := sv_in 50 (by decide +kernel) rfl
def F_Mo_takesGood_b69 (x1 : Int32) (s : sv_S) : Option (Int32 × sv_S) :=
  (F_Mo_takes (32 : Int32) s).bind fun r6 =>
  if r6.1 = 0 then
    some ((0 : Int32), r6.2)
  else
  (F_Mo_isDigit r6.2).bind fun r7 =>
  if r7 = 0 then
    some ((0 : Int32), r6.2)
  else
  (F_Mo_next r6.2).bind fun r8 =>
  if sv_ib x1 20 = true then
    ss_let (ss_setI r6.2 199 x1.toNatClampNeg (r8 - (48 : Int32))) fun s9 =>
    ss_let (ss_setI s9 187 25 ((s9.1 187 25) + (1 : Int32))) fun s10 =>
    some ((1 : Int32), s10)
  else none
theorem V_Mo_takesGood_b69 (E : sv_E) (d : Nat) (x1 : Int32) (s : sv_S) : sv_V E m_Mo_takesGood (d + 2) ss_i 69 [(0, sv_r E 187), (1, .int x1)] [] (ss_e s) (F_Mo_takesGood_b69 x1 s) := by
  unfold F_Mo_takesGood_b69
  refine sv_aload_n (pc := 69) 0 (sv_d k_Mo_takesGood 39 rfl) rfl rfl ?_
  refine sv_bipush (pc := 70) (v := (32 : Int32)) (sv_d k_Mo_takesGood 40 rfl) (by decide) ?_
  refine sv_callV (pc := 72) (ψ := ss_i) (As := [.int (32 : Int32)]) (rest := []) (c := 187) (sv_d k_Mo_takesGood 41 rfl) g_Mo_takes w1616 in_Mo_takes se_Mo_takes cf12 kd187 (ss_lt (by decide)) rfl (Nat.le_of_ble_eq_true rfl) (V_Mo_takes E (d + 0) (32 : Int32) s) (Nat.le_of_ble_eq_true rfl) rfl (fun r6 => ?_)
  show sv_V E _ _ _ 75 _ [.int r6.1] (ss_e r6.2) _
  refine sv_if_eq (pc := 75) (tgt := 85) (sv_d k_Mo_takesGood 42 rfl) (by decide) ?_ ?_
  · refine sv_iconst (pc := 85) (v := (0 : Int32)) (sv_d k_Mo_takesGood 46 rfl) (by decide) ?_
    exact sv_ret (pc := 86) (sv_d k_Mo_takesGood 47 rfl) ⟨_, rfl, rfl⟩ rfl
  · refine sv_aload_n (pc := 78) 0 (sv_d k_Mo_takesGood 43 rfl) rfl rfl ?_
    refine sv_callV (pc := 79) (ψ := (ss_pi r6.2)) (As := []) (rest := []) (c := 187) (sv_d k_Mo_takesGood 44 rfl) g_Mo_isDigit w1628 in_Mo_isDigit se_Mo_isDigit cf12 kd187 (ss_lt (by decide)) rfl (Nat.le_of_ble_eq_true rfl) (V_Mo_isDigit E (d + 0) r6.2) (Nat.le_of_ble_eq_true rfl) rfl (fun r7 => ?_)
    show sv_V E _ _ _ 82 _ [.int r7] (ss_e r6.2) _
    refine sv_if_ne (pc := 82) (tgt := 87) (sv_d k_Mo_takesGood 45 rfl) (by decide) ?_ ?_
    · refine sv_aload_n (pc := 87) 0 (sv_d k_Mo_takesGood 48 rfl) rfl rfl ?_
      refine sv_getf (pc := 88) 16 (sv_d k_Mo_takesGood 49 rfl) cf12 (by decide) w1318 kd187 (ss_lt (by decide)) (lr_187_16 E _) ?_
      refine sv_iload_n (pc := 91) 1 (sv_d k_Mo_takesGood 50 rfl) rfl rfl ?_
      refine sv_aload_n (pc := 92) 0 (sv_d k_Mo_takesGood 51 rfl) rfl rfl ?_
      refine sv_callV (pc := 93) (ψ := (ss_pi r6.2)) (As := []) (rest := [.int x1, sv_r E 199]) (c := 187) (sv_d k_Mo_takesGood 52 rfl) g_Mo_next w1606 in_Mo_next se_Mo_next cf12 kd187 (ss_lt (by decide)) rfl (Nat.le_of_ble_eq_true rfl) (V_Mo_next E (d + 1) r6.2) (Nat.le_of_ble_eq_true rfl) rfl (fun r8 => ?_)
      show sv_V E _ _ _ 96 _ [.int r8, .int x1, sv_r E 199] (ss_e r6.2) _
      refine sv_bipush (pc := 96) (v := (48 : Int32)) (sv_d k_Mo_takesGood 53 rfl) (by decide) ?_
      refine sv_isub (pc := 98) (sv_d k_Mo_takesGood 54 rfl) ?_
      refine ss_iast (pc := 99) (n := 20) (sv_d k_Mo_takesGood 55 rfl) kd199 (by decide) (ss_lt (by decide)) rfl (ss_lets (fun s9 e_s9 => ?_))
      refine sv_aload_n (pc := 100) 0 (sv_d k_Mo_takesGood 56 rfl) rfl rfl ?_
      refine sv_dup (pc := 101) (sv_d k_Mo_takesGood 57 rfl) rfl ?_
      refine sv_getf (pc := 102) 25 (sv_d k_Mo_takesGood 58 rfl) cf12 (by decide) w1327 kd187 (ss_lt (by decide)) rfl ?_
      refine sv_iconst (pc := 105) (v := (1 : Int32)) (sv_d k_Mo_takesGood 59 rfl) (by decide) ?_
      refine sv_iadd (pc := 106) (sv_d k_Mo_takesGood 60 rfl) ?_
      refine ss_putI (pc := 107) 25 (sv_d k_Mo_takesGood 61 rfl) cf12 (by decide) rfl w1327 kd187 (ss_lt (by decide)) rfl rfl (fun _ => rfl) (ss_lets (fun s10 e_s10 => ?_))
      refine sv_iconst (pc := 110) (v := (1 : Int32)) (sv_d k_Mo_takesGood 62 rfl) (by decide) ?_
      exact sv_ret (pc := 111) (sv_d k_Mo_takesGood 63 rfl) ⟨_, rfl, rfl⟩ rfl
    · refine sv_iconst (pc := 85) (v := (0 : Int32)) (sv_d k_Mo_takesGood 46 rfl) (by decide) ?_
      exact sv_ret (pc := 86) (sv_d k_Mo_takesGood 47 rfl) ⟨_, rfl, rfl⟩ rfl
def F_Mo_takesGood (s : sv_S) : Option (Int32 × sv_S) :=
  (F_Mo_takes (32 : Int32) s).bind fun r1 =>
  if r1.1 = 0 then
    some ((0 : Int32), r1.2)
  else
  (F_Mo_isDigit r1.2).bind fun r2 =>
  if r2 = 0 then
    some ((0 : Int32), r1.2)
  else
  (F_Mo_next r1.2).bind fun r3 =>
  ss_let (r3 - (48 : Int32)) fun v4 =>
  ss_let (ss_setI r1.2 187 25 ((r1.2.1 187 25) + (1 : Int32))) fun s5 =>
  if v4 = (1 : Int32) then
    (F_Mo_isDigit s5).bind fun r11 =>
    if r11 = 0 then
      F_Mo_takesGood_b69 v4 s5
    else
    (F_Mo_next s5).bind fun r12 =>
    ss_let (((10 : Int32) + r12) - (48 : Int32)) fun v13 =>
    ss_let (ss_setI s5 187 25 ((s5.1 187 25) + (1 : Int32))) fun s14 =>
    F_Mo_takesGood_b69 v13 s14
  else
  F_Mo_takesGood_b69 v4 s5
theorem V_Mo_takesGood (E : sv_E) (d : Nat) (s : sv_S) : sv_V E m_Mo_takesGood (d + 2) ss_i 0 (lv_args 0 [sv_r E 187]) [] (ss_e s) (F_Mo_takesGood s) := by
  show sv_V E m_Mo_takesGood (d + 2) ss_i 0 [(0, sv_r E 187)] [] (ss_e s) _
  unfold F_Mo_takesGood
  refine sv_aload_n (pc := 0) 0 (sv_d k_Mo_takesGood 0 rfl) rfl rfl ?_
  refine sv_bipush (pc := 1) (v := (32 : Int32)) (sv_d k_Mo_takesGood 1 rfl) (by decide) ?_
  refine sv_callV (pc := 3) (ψ := ss_i) (As := [.int (32 : Int32)]) (rest := []) (c := 187) (sv_d k_Mo_takesGood 2 rfl) g_Mo_takes w1616 in_Mo_takes se_Mo_takes cf12 kd187 (ss_lt (by decide)) rfl (Nat.le_of_ble_eq_true rfl) (V_Mo_takes E (d + 0) (32 : Int32) s) (Nat.le_of_ble_eq_true rfl) rfl (fun r1 => ?_)
  show sv_V E _ _ _ 6 _ [.int r1.1] (ss_e r1.2) _
  refine sv_if_eq (pc := 6) (tgt := 16) (sv_d k_Mo_takesGood 3 rfl) (by decide) ?_ ?_
  · refine sv_iconst (pc := 16) (v := (0 : Int32)) (sv_d k_Mo_takesGood 7 rfl) (by decide) ?_
    exact sv_ret (pc := 17) (sv_d k_Mo_takesGood 8 rfl) ⟨_, rfl, rfl⟩ rfl
  · refine sv_aload_n (pc := 9) 0 (sv_d k_Mo_takesGood 4 rfl) rfl rfl ?_
    refine sv_callV (pc := 10) (ψ := (ss_pi r1.2)) (As := []) (rest := []) (c := 187) (sv_d k_Mo_takesGood 5 rfl) g_Mo_isDigit w1628 in_Mo_isDigit se_Mo_isDigit cf12 kd187 (ss_lt (by decide)) rfl (Nat.le_of_ble_eq_true rfl) (V_Mo_isDigit E (d + 0) r1.2) (Nat.le_of_ble_eq_true rfl) rfl (fun r2 => ?_)
    show sv_V E _ _ _ 13 _ [.int r2] (ss_e r1.2) _
    refine sv_if_ne (pc := 13) (tgt := 18) (sv_d k_Mo_takesGood 6 rfl) (by decide) ?_ ?_
    · refine sv_aload_n (pc := 18) 0 (sv_d k_Mo_takesGood 9 rfl) rfl rfl ?_
      refine sv_callV (pc := 19) (ψ := (ss_pi r1.2)) (As := []) (rest := []) (c := 187) (sv_d k_Mo_takesGood 10 rfl) g_Mo_next w1606 in_Mo_next se_Mo_next cf12 kd187 (ss_lt (by decide)) rfl (Nat.le_of_ble_eq_true rfl) (V_Mo_next E (d + 1) r1.2) (Nat.le_of_ble_eq_true rfl) rfl (fun r3 => ?_)
      show sv_V E _ _ _ 22 _ [.int r3] (ss_e r1.2) _
      refine sv_bipush (pc := 22) (v := (48 : Int32)) (sv_d k_Mo_takesGood 11 rfl) (by decide) ?_
      refine sv_isub (pc := 24) (sv_d k_Mo_takesGood 12 rfl) ?_
      refine ss_top (fun v4 e_v4 => ?_)
      refine sv_istore_n (pc := 25) (lv' := [(1, .int v4), (0, sv_r E 187)]) (sv_d k_Mo_takesGood 13 rfl) rfl (by decide) rfl ?_
      refine sv_aload_n (pc := 26) 1 (sv_d k_Mo_takesGood 14 rfl) rfl rfl ?_
      refine sv_dup (pc := 27) (sv_d k_Mo_takesGood 15 rfl) rfl ?_
      refine sv_getf (pc := 28) 25 (sv_d k_Mo_takesGood 16 rfl) cf12 (by decide) w1327 kd187 (ss_lt (by decide)) rfl ?_
      refine sv_iconst (pc := 31) (v := (1 : Int32)) (sv_d k_Mo_takesGood 17 rfl) (by decide) ?_
      refine sv_iadd (pc := 32) (sv_d k_Mo_takesGood 18 rfl) ?_
      refine ss_putI (pc := 33) 25 (sv_d k_Mo_takesGood 19 rfl) cf12 (by decide) rfl w1327 kd187 (ss_lt (by decide)) rfl rfl (fun _ => rfl) (ss_lets (fun s5 e_s5 => ?_))
      refine sv_iload_n (pc := 36) 0 (sv_d k_Mo_takesGood 20 rfl) rfl rfl ?_
      refine sv_iconst (pc := 37) (v := (1 : Int32)) (sv_d k_Mo_takesGood 21 rfl) (by decide) ?_
      refine sv_icmp_ne (pc := 38) (tgt := 69) (sv_d k_Mo_takesGood 22 rfl) (by decide) ?_ ?_
      · exact sv_loc [1, 0] rfl (V_Mo_takesGood_b69 E d v4 s5)
      · refine sv_aload_n (pc := 41) 1 (sv_d k_Mo_takesGood 23 rfl) rfl rfl ?_
        refine sv_callV (pc := 42) (ψ := (ss_pi s5)) (As := []) (rest := []) (c := 187) (sv_d k_Mo_takesGood 24 rfl) g_Mo_isDigit w1628 in_Mo_isDigit se_Mo_isDigit cf12 kd187 (ss_lt (by decide)) rfl (Nat.le_of_ble_eq_true rfl) (V_Mo_isDigit E (d + 0) s5) (Nat.le_of_ble_eq_true rfl) rfl (fun r11 => ?_)
        show sv_V E _ _ _ 45 _ [.int r11] (ss_e s5) _
        refine sv_if_eq (pc := 45) (tgt := 69) (sv_d k_Mo_takesGood 25 rfl) (by decide) ?_ ?_
        · exact sv_loc [1, 0] rfl (V_Mo_takesGood_b69 E d v4 s5)
        · refine sv_bipush (pc := 48) (v := (10 : Int32)) (sv_d k_Mo_takesGood 26 rfl) (by decide) ?_
          refine sv_aload_n (pc := 50) 1 (sv_d k_Mo_takesGood 27 rfl) rfl rfl ?_
          refine sv_callV (pc := 51) (ψ := (ss_pi s5)) (As := []) (rest := [.int (10 : Int32)]) (c := 187) (sv_d k_Mo_takesGood 28 rfl) g_Mo_next w1606 in_Mo_next se_Mo_next cf12 kd187 (ss_lt (by decide)) rfl (Nat.le_of_ble_eq_true rfl) (V_Mo_next E (d + 1) s5) (Nat.le_of_ble_eq_true rfl) rfl (fun r12 => ?_)
          show sv_V E _ _ _ 54 _ [.int r12, .int (10 : Int32)] (ss_e s5) _
          refine sv_iadd (pc := 54) (sv_d k_Mo_takesGood 29 rfl) ?_
          refine sv_bipush (pc := 55) (v := (48 : Int32)) (sv_d k_Mo_takesGood 30 rfl) (by decide) ?_
          refine sv_isub (pc := 57) (sv_d k_Mo_takesGood 31 rfl) ?_
          refine ss_top (fun v13 e_v13 => ?_)
          refine sv_istore_n (pc := 58) (lv' := [(1, .int v13), (0, sv_r E 187)]) (sv_d k_Mo_takesGood 32 rfl) rfl (by decide) rfl ?_
          refine sv_aload_n (pc := 59) 1 (sv_d k_Mo_takesGood 33 rfl) rfl rfl ?_
          refine sv_dup (pc := 60) (sv_d k_Mo_takesGood 34 rfl) rfl ?_
          refine sv_getf (pc := 61) 25 (sv_d k_Mo_takesGood 35 rfl) cf12 (by decide) w1327 kd187 (ss_lt (by decide)) rfl ?_
          refine sv_iconst (pc := 64) (v := (1 : Int32)) (sv_d k_Mo_takesGood 36 rfl) (by decide) ?_
          refine sv_iadd (pc := 65) (sv_d k_Mo_takesGood 37 rfl) ?_
          refine ss_putI (pc := 66) 25 (sv_d k_Mo_takesGood 38 rfl) cf12 (by decide) rfl w1327 kd187 (ss_lt (by decide)) rfl rfl (fun _ => rfl) (ss_lets (fun s14 e_s14 => ?_))
          exact sv_loc [1, 0] rfl (V_Mo_takesGood_b69 E d v13 s14)
    · refine sv_iconst (pc := 16) (v := (0 : Int32)) (sv_d k_Mo_takesGood 7 rfl) (by decide) ?_
      exact sv_ret (pc := 17) (sv_d k_Mo_takesGood 8 rfl) ⟨_, rfl, rfl⟩ rfl
/-! Mo_takesMost -/
abbrev m_Mo_takesMost : sv_M := (yX12_takesMost, cX12_takesMost, 2, (some .boolean))
def t_Mo_takesMost : List (Nat × Instr × Nat) := [(0, .aload_n 0, 1), (1, .bipush 32, 2), (3, .invokevirtual 285, 3), (6, .ifCond .eq 10, 3), (9, .aload_n 0, 1), (10, .invokevirtual 288, 3), (13, .ifCond .ne 5, 3), (16, .iconst 0, 1), (17, .ireturn, 1), (18, .aload_n 0, 1), (19, .invokevirtual 279, 3), (22, .bipush 48, 2), (24, .isub, 1), (25, .istore_n 1, 1), (26, .aload_n 0, 1), (27, .dup, 1), (28, .getfield 87, 3), (31, .iconst 1, 1), (32, .iadd, 1), (33, .putfield 87, 3), (36, .aload_n 0, 1), (37, .bipush 32, 2), (39, .invokevirtual 285, 3), (42, .ifCond .eq 10, 3), (45, .aload_n 0, 1), (46, .invokevirtual 296, 3), (49, .ifCond .ne 5, 3), (52, .iconst 0, 1), (53, .ireturn, 1), (54, .aload_n 0, 1), (55, .getfield 62, 3), (58, .iload_n 1, 1), (59, .aload_n 0, 1), (60, .getfield 90, 3), (63, .iastore, 1), (64, .iconst 1, 1), (65, .ireturn, 1)]
theorem k_Mo_takesMost : sv_tk m_Mo_takesMost.2.1 t_Mo_takesMost := by decide +kernel
theorem g_Mo_takesMost : sv_G m_Mo_takesMost 0 := ⟨by decide +kernel, sv_in 1641 (by decide +kernel) rfl, sv_in 103 (by decide +kernel) rfl, ⟨by decide, by decide⟩, by decide +kernel, by decide⟩
theorem in_Mo_takesMost : Cond.instanceMethod m_Mo_takesMost.1 ∈ sv_T := sv_in 1640 (by decide +kernel) rfl
theorem se_Mo_takesMost : Cond.selects m_Mo_takesMost.1.cls m_Mo_takesMost.1 m_Mo_takesMost.1 ∈ sv_T := sv_in 51 (by decide +kernel) rfl
def F_Mo_takesMost (s : sv_S) : Option (Int32 × sv_S) :=
  (F_Mo_takes (32 : Int32) s).bind fun r1 =>
  if r1.1 = 0 then
    some ((0 : Int32), r1.2)
  else
  (F_Mo_isDigit r1.2).bind fun r2 =>
  if r2 = 0 then
    some ((0 : Int32), r1.2)
  else
  (F_Mo_next r1.2).bind fun r3 =>
  ss_let (r3 - (48 : Int32)) fun v4 =>
  ss_let (ss_setI r1.2 187 25 ((r1.2.1 187 25) + (1 : Int32))) fun s5 =>
  (F_Mo_takes (32 : Int32) s5).bind fun r6 =>
  if r6.1 = 0 then
    some ((0 : Int32), r6.2)
  else
  (F_Mo_takesNumber r6.2).bind fun r7 =>
  if r7.1 = 0 then
    some ((0 : Int32), r7.2)
  else
  if sv_ib v4 10 = true then
    ss_let (ss_setI r7.2 200 v4.toNatClampNeg (r7.2.1 187 26)) fun s8 =>
    some ((1 : Int32), s8)
  else none
theorem V_Mo_takesMost (E : sv_E) (d : Nat) (s : sv_S) : sv_V E m_Mo_takesMost (d + 3) ss_i 0 (lv_args 0 [sv_r E 187]) [] (ss_e s) (F_Mo_takesMost s) := by
  show sv_V E m_Mo_takesMost (d + 3) ss_i 0 [(0, sv_r E 187)] [] (ss_e s) _
  unfold F_Mo_takesMost
  refine sv_aload_n (pc := 0) 0 (sv_d k_Mo_takesMost 0 rfl) rfl rfl ?_
  refine sv_bipush (pc := 1) (v := (32 : Int32)) (sv_d k_Mo_takesMost 1 rfl) (by decide) ?_
  refine sv_callV (pc := 3) (ψ := ss_i) (As := [.int (32 : Int32)]) (rest := []) (c := 187) (sv_d k_Mo_takesMost 2 rfl) g_Mo_takes w1616 in_Mo_takes se_Mo_takes cf12 kd187 (ss_lt (by decide)) rfl (Nat.le_of_ble_eq_true rfl) (V_Mo_takes E (d + 1) (32 : Int32) s) (Nat.le_of_ble_eq_true rfl) rfl (fun r1 => ?_)
  show sv_V E _ _ _ 6 _ [.int r1.1] (ss_e r1.2) _
  refine sv_if_eq (pc := 6) (tgt := 16) (sv_d k_Mo_takesMost 3 rfl) (by decide) ?_ ?_
  · refine sv_iconst (pc := 16) (v := (0 : Int32)) (sv_d k_Mo_takesMost 7 rfl) (by decide) ?_
    exact sv_ret (pc := 17) (sv_d k_Mo_takesMost 8 rfl) ⟨_, rfl, rfl⟩ rfl
  · refine sv_aload_n (pc := 9) 0 (sv_d k_Mo_takesMost 4 rfl) rfl rfl ?_
    refine sv_callV (pc := 10) (ψ := (ss_pi r1.2)) (As := []) (rest := []) (c := 187) (sv_d k_Mo_takesMost 5 rfl) g_Mo_isDigit w1628 in_Mo_isDigit se_Mo_isDigit cf12 kd187 (ss_lt (by decide)) rfl (Nat.le_of_ble_eq_true rfl) (V_Mo_isDigit E (d + 1) r1.2) (Nat.le_of_ble_eq_true rfl) rfl (fun r2 => ?_)
    show sv_V E _ _ _ 13 _ [.int r2] (ss_e r1.2) _
    refine sv_if_ne (pc := 13) (tgt := 18) (sv_d k_Mo_takesMost 6 rfl) (by decide) ?_ ?_
    · refine sv_aload_n (pc := 18) 0 (sv_d k_Mo_takesMost 9 rfl) rfl rfl ?_
      refine sv_callV (pc := 19) (ψ := (ss_pi r1.2)) (As := []) (rest := []) (c := 187) (sv_d k_Mo_takesMost 10 rfl) g_Mo_next w1606 in_Mo_next se_Mo_next cf12 kd187 (ss_lt (by decide)) rfl (Nat.le_of_ble_eq_true rfl) (V_Mo_next E (d + 2) r1.2) (Nat.le_of_ble_eq_true rfl) rfl (fun r3 => ?_)
      show sv_V E _ _ _ 22 _ [.int r3] (ss_e r1.2) _
      refine sv_bipush (pc := 22) (v := (48 : Int32)) (sv_d k_Mo_takesMost 11 rfl) (by decide) ?_
      refine sv_isub (pc := 24) (sv_d k_Mo_takesMost 12 rfl) ?_
      refine ss_top (fun v4 e_v4 => ?_)
      refine sv_istore_n (pc := 25) (lv' := [(1, .int v4), (0, sv_r E 187)]) (sv_d k_Mo_takesMost 13 rfl) rfl (by decide) rfl ?_
      refine sv_aload_n (pc := 26) 1 (sv_d k_Mo_takesMost 14 rfl) rfl rfl ?_
      refine sv_dup (pc := 27) (sv_d k_Mo_takesMost 15 rfl) rfl ?_
      refine sv_getf (pc := 28) 25 (sv_d k_Mo_takesMost 16 rfl) cf12 (by decide) w1327 kd187 (ss_lt (by decide)) rfl ?_
      refine sv_iconst (pc := 31) (v := (1 : Int32)) (sv_d k_Mo_takesMost 17 rfl) (by decide) ?_
      refine sv_iadd (pc := 32) (sv_d k_Mo_takesMost 18 rfl) ?_
      refine ss_putI (pc := 33) 25 (sv_d k_Mo_takesMost 19 rfl) cf12 (by decide) rfl w1327 kd187 (ss_lt (by decide)) rfl rfl (fun _ => rfl) (ss_lets (fun s5 e_s5 => ?_))
      refine sv_aload_n (pc := 36) 1 (sv_d k_Mo_takesMost 20 rfl) rfl rfl ?_
      refine sv_bipush (pc := 37) (v := (32 : Int32)) (sv_d k_Mo_takesMost 21 rfl) (by decide) ?_
      refine sv_callV (pc := 39) (ψ := ss_i) (As := [.int (32 : Int32)]) (rest := []) (c := 187) (sv_d k_Mo_takesMost 22 rfl) g_Mo_takes w1616 in_Mo_takes se_Mo_takes cf12 kd187 (ss_lt (by decide)) rfl (Nat.le_of_ble_eq_true rfl) (V_Mo_takes E (d + 1) (32 : Int32) s5) (Nat.le_of_ble_eq_true rfl) rfl (fun r6 => ?_)
      show sv_V E _ _ _ 42 _ [.int r6.1] (ss_e r6.2) _
      refine sv_if_eq (pc := 42) (tgt := 52) (sv_d k_Mo_takesMost 23 rfl) (by decide) ?_ ?_
      · refine sv_iconst (pc := 52) (v := (0 : Int32)) (sv_d k_Mo_takesMost 27 rfl) (by decide) ?_
        exact sv_ret (pc := 53) (sv_d k_Mo_takesMost 28 rfl) ⟨_, rfl, rfl⟩ rfl
      · refine sv_aload_n (pc := 45) 1 (sv_d k_Mo_takesMost 24 rfl) rfl rfl ?_
        refine sv_callV (pc := 46) (ψ := ss_i) (As := []) (rest := []) (c := 187) (sv_d k_Mo_takesMost 25 rfl) g_Mo_takesNumber w1624 in_Mo_takesNumber se_Mo_takesNumber cf12 kd187 (ss_lt (by decide)) rfl (Nat.le_of_ble_eq_true rfl) (V_Mo_takesNumber E (d + 0) r6.2) (Nat.le_of_ble_eq_true rfl) rfl (fun r7 => ?_)
        show sv_V E _ _ _ 49 _ [.int r7.1] (ss_e r7.2) _
        refine sv_if_ne (pc := 49) (tgt := 54) (sv_d k_Mo_takesMost 26 rfl) (by decide) ?_ ?_
        · refine sv_aload_n (pc := 54) 1 (sv_d k_Mo_takesMost 29 rfl) rfl rfl ?_
          refine sv_getf (pc := 55) 17 (sv_d k_Mo_takesMost 30 rfl) cf12 (by decide) w1319 kd187 (ss_lt (by decide)) (lr_187_17 E _) ?_
          refine sv_iload_n (pc := 58) 0 (sv_d k_Mo_takesMost 31 rfl) rfl rfl ?_
          refine sv_aload_n (pc := 59) 1 (sv_d k_Mo_takesMost 32 rfl) rfl rfl ?_
          refine sv_getf (pc := 60) 26 (sv_d k_Mo_takesMost 33 rfl) cf12 (by decide) w1328 kd187 (ss_lt (by decide)) rfl ?_
          refine ss_iast (pc := 63) (n := 10) (sv_d k_Mo_takesMost 34 rfl) kd200 (by decide) (ss_lt (by decide)) rfl (ss_lets (fun s8 e_s8 => ?_))
          refine sv_iconst (pc := 64) (v := (1 : Int32)) (sv_d k_Mo_takesMost 35 rfl) (by decide) ?_
          exact sv_ret (pc := 65) (sv_d k_Mo_takesMost 36 rfl) ⟨_, rfl, rfl⟩ rfl
        · refine sv_iconst (pc := 52) (v := (0 : Int32)) (sv_d k_Mo_takesMost 27 rfl) (by decide) ?_
          exact sv_ret (pc := 53) (sv_d k_Mo_takesMost 28 rfl) ⟨_, rfl, rfl⟩ rfl
    · refine sv_iconst (pc := 16) (v := (0 : Int32)) (sv_d k_Mo_takesMost 7 rfl) (by decide) ?_
      exact sv_ret (pc := 17) (sv_d k_Mo_takesMost 8 rfl) ⟨_, rfl, rfl⟩ rfl
/-! Mo_push -/
abbrev m_Mo_push : sv_M := (yX12_push, cX12_push, 3, none)
def t_Mo_push : List (Nat × Instr × Nat) := [(0, .iload_n 1, 1), (1, .istore_n 2, 1), (2, .aload_n 0, 1), (3, .getfield 100, 3), (6, .ifCond .le 52, 3), (9, .aload_n 0, 1), (10, .getfield 93, 3), (13, .aload_n 0, 1), (14, .getfield 100, 3), (17, .iconst 1, 1), (18, .isub, 1), (19, .iaload, 1), (20, .bipush 33, 2), (22, .if_icmp .ne 36, 3), (25, .iload_n 2, 1), (26, .ifCond .ne 7, 3), (29, .iconst 1, 1), (30, .goto 4, 3), (33, .iconst 0, 1), (34, .istore_n 2, 1), (35, .aload_n 0, 1), (36, .dup, 1), (37, .getfield 100, 3), (40, .iconst 1, 1), (41, .isub, 1), (42, .putfield 100, 3), (45, .aload_n 0, 1), (46, .dup, 1), (47, .getfield 106, 3), (50, .iconst 1, 1), (51, .isub, 1), (52, .putfield 106, 3), (55, .goto (-53), 3), (58, .aload_n 0, 1), (59, .getfield 96, 3), (62, .aload_n 0, 1), (63, .getfield 103, 3), (66, .iload_n 2, 1), (67, .bastore, 1), (68, .aload_n 0, 1), (69, .dup, 1), (70, .getfield 103, 3), (73, .iconst 1, 1), (74, .iadd, 1), (75, .putfield 103, 3), (78, .return_, 1)]
theorem k_Mo_push : sv_tk m_Mo_push.2.1 t_Mo_push := by decide +kernel
theorem g_Mo_push : sv_G m_Mo_push 1 := ⟨by decide +kernel, sv_in 1655 (by decide +kernel) rfl, sv_in 103 (by decide +kernel) rfl, ⟨by decide, by decide⟩, by decide +kernel, by decide⟩
theorem in_Mo_push : Cond.instanceMethod m_Mo_push.1 ∈ sv_T := sv_in 1654 (by decide +kernel) rfl
theorem se_Mo_push : Cond.selects m_Mo_push.1.cls m_Mo_push.1 m_Mo_push.1 ∈ sv_T := sv_in 54 (by decide +kernel) rfl
def F_Mo_push_b58 (x2 : Int32) (s : sv_S) : Option (sv_S) :=
  if sv_ib (s.1 187 30) 141 = true then
    ss_let (ss_setI s 204 (s.1 187 30).toNatClampNeg (x2 &&& 1)) fun s1 =>
    ss_let (ss_setI s1 187 30 ((s1.1 187 30) + (1 : Int32))) fun s2 =>
    some s2
  else none
theorem V_Mo_push_b58 (E : sv_E) (d : Nat) (x2 : Int32) (s : sv_S) : sv_V E m_Mo_push (d + 0) ss_v 58 [(0, sv_r E 187), (2, .int x2)] [] (ss_e s) (F_Mo_push_b58 x2 s) := by
  unfold F_Mo_push_b58
  refine sv_aload_n (pc := 58) 0 (sv_d k_Mo_push 33 rfl) rfl rfl ?_
  refine sv_getf (pc := 59) 28 (sv_d k_Mo_push 34 rfl) cf12 (by decide) w1330 kd187 (ss_lt (by decide)) (lr_187_28 E _) ?_
  refine sv_aload_n (pc := 62) 0 (sv_d k_Mo_push 35 rfl) rfl rfl ?_
  refine sv_getf (pc := 63) 30 (sv_d k_Mo_push 36 rfl) cf12 (by decide) w1332 kd187 (ss_lt (by decide)) rfl ?_
  refine sv_iload_n (pc := 66) 1 (sv_d k_Mo_push 37 rfl) rfl rfl ?_
  refine ss_zast (pc := 67) (n := 141) (sv_d k_Mo_push 38 rfl) kd204 (by decide) (ss_lt (by decide)) rfl (ss_lets (fun s1 e_s1 => ?_))
  refine sv_aload_n (pc := 68) 0 (sv_d k_Mo_push 39 rfl) rfl rfl ?_
  refine sv_dup (pc := 69) (sv_d k_Mo_push 40 rfl) rfl ?_
  refine sv_getf (pc := 70) 30 (sv_d k_Mo_push 41 rfl) cf12 (by decide) w1332 kd187 (ss_lt (by decide)) rfl ?_
  refine sv_iconst (pc := 73) (v := (1 : Int32)) (sv_d k_Mo_push 42 rfl) (by decide) ?_
  refine sv_iadd (pc := 74) (sv_d k_Mo_push 43 rfl) ?_
  refine ss_putI (pc := 75) 30 (sv_d k_Mo_push 44 rfl) cf12 (by decide) rfl w1332 kd187 (ss_lt (by decide)) rfl rfl (fun _ => rfl) (ss_lets (fun s2 e_s2 => ?_))
  exact sv_retv (pc := 78) (sv_d k_Mo_push 45 rfl) rfl rfl
def F_Mo_push_b34 (kc2 : Int32 → sv_S → Option (sv_S)) (t0 : Int32) (s : sv_S) : Option (sv_S) :=
  ss_let (ss_setI s 187 29 ((s.1 187 29) - (1 : Int32))) fun s3 =>
  ss_let (ss_setI s3 187 31 ((s3.1 187 31) - (1 : Int32))) fun s4 =>
  kc2 t0 s4
theorem V_Mo_push_b34 (E : sv_E) (d : Nat) (kc2 : Int32 → sv_S → Option (sv_S)) (hc2 : ∀ (x2 : Int32) (s : sv_S), sv_V E m_Mo_push (d + 0) ss_v 2 [(0, sv_r E 187), (2, .int x2)] [] (ss_e s) (kc2 x2 s)) (t0 : Int32) (s : sv_S) : sv_V E m_Mo_push (d + 0) ss_v 34 [(0, sv_r E 187)] [.int t0] (ss_e s) (F_Mo_push_b34 kc2 t0 s) := by
  unfold F_Mo_push_b34
  refine sv_istore_n (pc := 34) (lv' := [(2, .int t0), (0, sv_r E 187)]) (sv_d k_Mo_push 19 rfl) rfl (by decide) rfl ?_
  refine sv_aload_n (pc := 35) 1 (sv_d k_Mo_push 20 rfl) rfl rfl ?_
  refine sv_dup (pc := 36) (sv_d k_Mo_push 21 rfl) rfl ?_
  refine sv_getf (pc := 37) 29 (sv_d k_Mo_push 22 rfl) cf12 (by decide) w1331 kd187 (ss_lt (by decide)) rfl ?_
  refine sv_iconst (pc := 40) (v := (1 : Int32)) (sv_d k_Mo_push 23 rfl) (by decide) ?_
  refine sv_isub (pc := 41) (sv_d k_Mo_push 24 rfl) ?_
  refine ss_putI (pc := 42) 29 (sv_d k_Mo_push 25 rfl) cf12 (by decide) rfl w1331 kd187 (ss_lt (by decide)) rfl rfl (fun _ => rfl) (ss_lets (fun s3 e_s3 => ?_))
  refine sv_aload_n (pc := 45) 1 (sv_d k_Mo_push 26 rfl) rfl rfl ?_
  refine sv_dup (pc := 46) (sv_d k_Mo_push 27 rfl) rfl ?_
  refine sv_getf (pc := 47) 31 (sv_d k_Mo_push 28 rfl) cf12 (by decide) w1333 kd187 (ss_lt (by decide)) rfl ?_
  refine sv_iconst (pc := 50) (v := (1 : Int32)) (sv_d k_Mo_push 29 rfl) (by decide) ?_
  refine sv_isub (pc := 51) (sv_d k_Mo_push 30 rfl) ?_
  refine ss_putI (pc := 52) 31 (sv_d k_Mo_push 31 rfl) cf12 (by decide) rfl w1333 kd187 (ss_lt (by decide)) rfl rfl (fun _ => rfl) (ss_lets (fun s4 e_s4 => ?_))
  refine sv_goto (pc := 55) (tgt := 2) (sv_d k_Mo_push 32 rfl) (by decide) ?_
  exact sv_loc [1, 0] rfl (hc2 t0 s4)
def F_Mo_push_b2 : Nat → Int32 → sv_S → Option (sv_S)
  | 0 => fun _ _ => none
  | n + 1 => fun x2 s =>
    if (s.1 187 29) ≤ 0 then
      F_Mo_push_b58 x2 s
    else
    if sv_ib ((s.1 187 29) - (1 : Int32)) 141 = true then
      if (s.1 203 ((s.1 187 29) - (1 : Int32)).toNatClampNeg) = (33 : Int32) then
        if x2 = 0 then
          F_Mo_push_b34 (F_Mo_push_b2  n) (1 : Int32) s
        else
        F_Mo_push_b34 (F_Mo_push_b2  n) (0 : Int32) s
      else
      F_Mo_push_b58 x2 s
    else none
theorem V_Mo_push_b2 (E : sv_E) (d : Nat) : ∀ (n : Nat) (x2 : Int32) (s : sv_S), sv_V E m_Mo_push (d + 0) ss_v 2 [(0, sv_r E 187), (2, .int x2)] [] (ss_e s) (F_Mo_push_b2 n x2 s) := by
  intro n
  induction n with
  | zero => intro x2 s; exact sv_none
  | succ n ih =>
    intro x2 s
    unfold F_Mo_push_b2
    refine sv_aload_n (pc := 2) 0 (sv_d k_Mo_push 2 rfl) rfl rfl ?_
    refine sv_getf (pc := 3) 29 (sv_d k_Mo_push 3 rfl) cf12 (by decide) w1331 kd187 (ss_lt (by decide)) rfl ?_
    refine sv_if_le (pc := 6) (tgt := 58) (sv_d k_Mo_push 4 rfl) (by decide) ?_ ?_
    · exact sv_loc [0, 1] rfl (V_Mo_push_b58 E d x2 s)
    · refine sv_aload_n (pc := 9) 0 (sv_d k_Mo_push 5 rfl) rfl rfl ?_
      refine sv_getf (pc := 10) 27 (sv_d k_Mo_push 6 rfl) cf12 (by decide) w1329 kd187 (ss_lt (by decide)) (lr_187_27 E _) ?_
      refine sv_aload_n (pc := 13) 0 (sv_d k_Mo_push 7 rfl) rfl rfl ?_
      refine sv_getf (pc := 14) 29 (sv_d k_Mo_push 8 rfl) cf12 (by decide) w1331 kd187 (ss_lt (by decide)) rfl ?_
      refine sv_iconst (pc := 17) (v := (1 : Int32)) (sv_d k_Mo_push 9 rfl) (by decide) ?_
      refine sv_isub (pc := 18) (sv_d k_Mo_push 10 rfl) ?_
      refine ss_iald (pc := 19) (n := 141) (sv_d k_Mo_push 11 rfl) kd203 (ss_lt (by decide)) rfl ?_
      refine sv_bipush (pc := 20) (v := (33 : Int32)) (sv_d k_Mo_push 12 rfl) (by decide) ?_
      refine sv_icmp_ne (pc := 22) (tgt := 58) (sv_d k_Mo_push 13 rfl) (by decide) ?_ ?_
      · exact sv_loc [0, 1] rfl (V_Mo_push_b58 E d x2 s)
      · refine sv_iload_n (pc := 25) 1 (sv_d k_Mo_push 14 rfl) rfl rfl ?_
        refine sv_if_ne (pc := 26) (tgt := 33) (sv_d k_Mo_push 15 rfl) (by decide) ?_ ?_
        · refine sv_iconst (pc := 33) (v := (0 : Int32)) (sv_d k_Mo_push 18 rfl) (by decide) ?_
          exact sv_loc [0] rfl (V_Mo_push_b34 E d (F_Mo_push_b2  n) ih (0 : Int32) s)
        · refine sv_iconst (pc := 29) (v := (1 : Int32)) (sv_d k_Mo_push 16 rfl) (by decide) ?_
          refine sv_goto (pc := 30) (tgt := 34) (sv_d k_Mo_push 17 rfl) (by decide) ?_
          exact sv_loc [0] rfl (V_Mo_push_b34 E d (F_Mo_push_b2  n) ih (1 : Int32) s)
def F_Mo_push (x1 : Int32) (s : sv_S) : Option (sv_S) :=
  F_Mo_push_b2 ss_F x1 s
theorem V_Mo_push (E : sv_E) (d : Nat) (x1 : Int32) (s : sv_S) : sv_V E m_Mo_push (d + 0) ss_v 0 (lv_args 0 [sv_r E 187, .int x1]) [] (ss_e s) (F_Mo_push x1 s) := by
  show sv_V E m_Mo_push (d + 0) ss_v 0 [(0, sv_r E 187), (1, .int x1)] [] (ss_e s) _
  unfold F_Mo_push
  refine sv_iload_n (pc := 0) 1 (sv_d k_Mo_push 0 rfl) rfl rfl ?_
  refine sv_istore_n (pc := 1) (lv' := [(2, .int x1), (0, sv_r E 187), (1, .int x1)]) (sv_d k_Mo_push 1 rfl) rfl (by decide) rfl ?_
  exact sv_loc [1, 0] rfl (V_Mo_push_b2 E d ss_F x1 s)
/-! Mo_takesTest -/
abbrev m_Mo_takesTest : sv_M := (yX12_takesTest, cX12_takesTest, 4, (some .boolean))
def t_Mo_takesTest : List (Nat × Instr × Nat) := [(0, .aload_n 0, 1), (1, .invokevirtual 279, 3), (4, .istore_n 1, 1), (5, .iload_n 1, 1), (6, .bipush 103, 2), (8, .if_icmp .ne 7, 3), (11, .iconst 0, 1), (12, .goto 65, 3), (15, .iload_n 1, 1), (16, .bipush 99, 2), (18, .if_icmp .ne 7, 3), (21, .iconst 1, 1), (22, .goto 55, 3), (25, .iload_n 1, 1), (26, .bipush 111, 2), (28, .if_icmp .ne 7, 3), (31, .iconst 2, 1), (32, .goto 45, 3), (35, .iload_n 1, 1), (36, .bipush 116, 2), (38, .if_icmp .ne 7, 3), (41, .iconst 3, 1), (42, .goto 35, 3), (45, .iload_n 1, 1), (46, .bipush 100, 2), (48, .if_icmp .ne 7, 3), (51, .iconst 4, 1), (52, .goto 25, 3), (55, .iload_n 1, 1), (56, .bipush 98, 2), (58, .if_icmp .ne 7, 3), (61, .iconst 5, 1), (62, .goto 15, 3), (65, .iload_n 1, 1), (66, .bipush 120, 2), (68, .if_icmp .ne 8, 3), (71, .bipush 6, 2), (73, .goto 4, 3), (76, .iconst (-1), 1), (77, .istore_n 2, 1), (78, .iload_n 2, 1), (79, .ifCond .ge 5, 3), (82, .iconst 0, 1), (83, .ireturn, 1), (84, .aload_n 0, 1), (85, .dup, 1), (86, .getfield 87, 3), (89, .iconst 1, 1), (90, .iadd, 1), (91, .putfield 87, 3), (94, .iload_n 2, 1), (95, .iconst 4, 1), (96, .if_icmp .le 24, 3), (99, .aload_n 0, 1), (100, .aload_n 0, 1), (101, .getfield 78, 3), (104, .iload_n 2, 1), (105, .iaload, 1), (106, .iconst 1, 1), (107, .if_icmp .ne 7, 3), (110, .iconst 1, 1), (111, .goto 4, 3), (114, .iconst 0, 1), (115, .invokevirtual 292, 3), (118, .iconst 1, 1), (119, .ireturn, 1), (120, .aload_n 0, 1), (121, .invokevirtual 279, 3), (124, .istore_n 3, 1), (125, .iload_n 2, 1), (126, .iconst 3, 1), (127, .if_icmp .ge 12, 3), (130, .iload_n 3, 1), (131, .bipush 61, 2), (133, .if_icmp .eq 20, 3), (136, .goto 15, 3), (139, .iload_n 3, 1), (140, .bipush 60, 2), (142, .if_icmp .eq 11, 3), (145, .iload_n 3, 1), (146, .bipush 62, 2), (148, .if_icmp .eq 5, 3), (151, .iconst 0, 1), (152, .ireturn, 1), (153, .aload_n 0, 1), (154, .dup, 1), (155, .getfield 87, 3), (158, .iconst 1, 1), (159, .iadd, 1), (160, .putfield 87, 3), (163, .aload_n 0, 1), (164, .invokevirtual 296, 3), (167, .ifCond .ne 5, 3), (170, .iconst 0, 1), (171, .ireturn, 1), (172, .aload_n 0, 1), (173, .iload_n 3, 1), (174, .bipush 61, 2), (176, .if_icmp .ne 24, 3), (179, .aload_n 0, 1), (180, .getfield 78, 3), (183, .iload_n 2, 1), (184, .iaload, 1), (185, .aload_n 0, 1), (186, .getfield 90, 3), (189, .if_icmp .ne 7, 3), (192, .iconst 1, 1), (193, .goto 52, 3), (196, .iconst 0, 1), (197, .goto 48, 3), (200, .iload_n 3, 1), (201, .bipush 60, 2), (203, .if_icmp .ne 24, 3), (206, .aload_n 0, 1), (207, .getfield 78, 3), (210, .iload_n 2, 1), (211, .iaload, 1), (212, .aload_n 0, 1), (213, .getfield 90, 3), (216, .if_icmp .ge 7, 3), (219, .iconst 1, 1), (220, .goto 25, 3), (223, .iconst 0, 1), (224, .goto 21, 3), (227, .aload_n 0, 1), (228, .getfield 78, 3), (231, .iload_n 2, 1), (232, .iaload, 1), (233, .aload_n 0, 1), (234, .getfield 90, 3), (237, .if_icmp .le 7, 3), (240, .iconst 1, 1), (241, .goto 4, 3), (244, .iconst 0, 1), (245, .invokevirtual 292, 3), (248, .iconst 1, 1), (249, .ireturn, 1)]
theorem k_Mo_takesTest : sv_tk m_Mo_takesTest.2.1 t_Mo_takesTest := by decide +kernel
theorem g_Mo_takesTest : sv_G m_Mo_takesTest 0 := ⟨by decide +kernel, sv_in 1651 (by decide +kernel) rfl, sv_in 103 (by decide +kernel) rfl, ⟨by decide, by decide⟩, by decide +kernel, by decide⟩
theorem in_Mo_takesTest : Cond.instanceMethod m_Mo_takesTest.1 ∈ sv_T := sv_in 1650 (by decide +kernel) rfl
theorem se_Mo_takesTest : Cond.selects m_Mo_takesTest.1.cls m_Mo_takesTest.1 m_Mo_takesTest.1 ∈ sv_T := sv_in 53 (by decide +kernel) rfl
def F_Mo_takesTest_b153 (x2 : Int32) (x3 : Int32) (s : sv_S) : Option (Int32 × sv_S) :=
  ss_let (ss_setI s 187 25 ((s.1 187 25) + (1 : Int32))) fun s4 =>
  (F_Mo_takesNumber s4).bind fun r5 =>
  if r5.1 = 0 then
    some ((0 : Int32), r5.2)
  else
  if x3 = (61 : Int32) then
    if sv_ib x2 7 = true then
      if (r5.2.1 202 x2.toNatClampNeg) = (r5.2.1 187 26) then
        (F_Mo_push (1 : Int32) r5.2).bind fun r11 =>
        some ((1 : Int32), r11)
      else
      (F_Mo_push (0 : Int32) r5.2).bind fun r10 =>
      some ((1 : Int32), r10)
    else none
  else
  if x3 = (60 : Int32) then
    if sv_ib x2 7 = true then
      if (r5.2.1 187 26) ≤ (r5.2.1 202 x2.toNatClampNeg) then
        (F_Mo_push (0 : Int32) r5.2).bind fun r8 =>
        some ((1 : Int32), r8)
      else
      (F_Mo_push (1 : Int32) r5.2).bind fun r9 =>
      some ((1 : Int32), r9)
    else none
  else
  if sv_ib x2 7 = true then
    if (r5.2.1 202 x2.toNatClampNeg) ≤ (r5.2.1 187 26) then
      (F_Mo_push (0 : Int32) r5.2).bind fun r6 =>
      some ((1 : Int32), r6)
    else
    (F_Mo_push (1 : Int32) r5.2).bind fun r7 =>
    some ((1 : Int32), r7)
  else none
theorem V_Mo_takesTest_b153 (E : sv_E) (d : Nat) (x2 : Int32) (x3 : Int32) (s : sv_S) : sv_V E m_Mo_takesTest (d + 3) ss_i 153 [(0, sv_r E 187), (2, .int x2), (3, .int x3)] [] (ss_e s) (F_Mo_takesTest_b153 x2 x3 s) := by
  unfold F_Mo_takesTest_b153
  refine sv_aload_n (pc := 153) 0 (sv_d k_Mo_takesTest 84 rfl) rfl rfl ?_
  refine sv_dup (pc := 154) (sv_d k_Mo_takesTest 85 rfl) rfl ?_
  refine sv_getf (pc := 155) 25 (sv_d k_Mo_takesTest 86 rfl) cf12 (by decide) w1327 kd187 (ss_lt (by decide)) rfl ?_
  refine sv_iconst (pc := 158) (v := (1 : Int32)) (sv_d k_Mo_takesTest 87 rfl) (by decide) ?_
  refine sv_iadd (pc := 159) (sv_d k_Mo_takesTest 88 rfl) ?_
  refine ss_putI (pc := 160) 25 (sv_d k_Mo_takesTest 89 rfl) cf12 (by decide) rfl w1327 kd187 (ss_lt (by decide)) rfl rfl (fun _ => rfl) (ss_lets (fun s4 e_s4 => ?_))
  refine sv_aload_n (pc := 163) 0 (sv_d k_Mo_takesTest 90 rfl) rfl rfl ?_
  refine sv_callV (pc := 164) (ψ := ss_i) (As := []) (rest := []) (c := 187) (sv_d k_Mo_takesTest 91 rfl) g_Mo_takesNumber w1624 in_Mo_takesNumber se_Mo_takesNumber cf12 kd187 (ss_lt (by decide)) rfl (Nat.le_of_ble_eq_true rfl) (V_Mo_takesNumber E (d + 0) s4) (Nat.le_of_ble_eq_true rfl) rfl (fun r5 => ?_)
  show sv_V E _ _ _ 167 _ [.int r5.1] (ss_e r5.2) _
  refine sv_if_ne (pc := 167) (tgt := 172) (sv_d k_Mo_takesTest 92 rfl) (by decide) ?_ ?_
  · refine sv_aload_n (pc := 172) 0 (sv_d k_Mo_takesTest 95 rfl) rfl rfl ?_
    refine sv_iload_n (pc := 173) 2 (sv_d k_Mo_takesTest 96 rfl) rfl rfl ?_
    refine sv_bipush (pc := 174) (v := (61 : Int32)) (sv_d k_Mo_takesTest 97 rfl) (by decide) ?_
    refine sv_icmp_ne (pc := 176) (tgt := 200) (sv_d k_Mo_takesTest 98 rfl) (by decide) ?_ ?_
    · refine sv_iload_n (pc := 200) 2 (sv_d k_Mo_takesTest 110 rfl) rfl rfl ?_
      refine sv_bipush (pc := 201) (v := (60 : Int32)) (sv_d k_Mo_takesTest 111 rfl) (by decide) ?_
      refine sv_icmp_ne (pc := 203) (tgt := 227) (sv_d k_Mo_takesTest 112 rfl) (by decide) ?_ ?_
      · refine sv_aload_n (pc := 227) 0 (sv_d k_Mo_takesTest 124 rfl) rfl rfl ?_
        refine sv_getf (pc := 228) 22 (sv_d k_Mo_takesTest 125 rfl) cf12 (by decide) w1324 kd187 (ss_lt (by decide)) (lr_187_22 E _) ?_
        refine sv_iload_n (pc := 231) 1 (sv_d k_Mo_takesTest 126 rfl) rfl rfl ?_
        refine ss_iald (pc := 232) (n := 7) (sv_d k_Mo_takesTest 127 rfl) kd202 (ss_lt (by decide)) rfl ?_
        refine sv_aload_n (pc := 233) 0 (sv_d k_Mo_takesTest 128 rfl) rfl rfl ?_
        refine sv_getf (pc := 234) 26 (sv_d k_Mo_takesTest 129 rfl) cf12 (by decide) w1328 kd187 (ss_lt (by decide)) rfl ?_
        refine sv_icmp_le (pc := 237) (tgt := 244) (sv_d k_Mo_takesTest 130 rfl) (by decide) ?_ ?_
        · refine sv_iconst (pc := 244) (v := (0 : Int32)) (sv_d k_Mo_takesTest 133 rfl) (by decide) ?_
          refine sv_callV (pc := 245) (ψ := ss_v) (As := [.int (0 : Int32)]) (rest := []) (c := 187) (sv_d k_Mo_takesTest 134 rfl) g_Mo_push w1652 in_Mo_push se_Mo_push cf12 kd187 (ss_lt (by decide)) rfl (Nat.le_of_ble_eq_true rfl) (V_Mo_push E (d + 2) (0 : Int32) r5.2) (Nat.le_of_ble_eq_true rfl) rfl (fun r6 => ?_)
          show sv_V E _ _ _ 248 _ [] (ss_e r6) _
          refine sv_iconst (pc := 248) (v := (1 : Int32)) (sv_d k_Mo_takesTest 135 rfl) (by decide) ?_
          exact sv_ret (pc := 249) (sv_d k_Mo_takesTest 136 rfl) ⟨_, rfl, rfl⟩ rfl
        · refine sv_iconst (pc := 240) (v := (1 : Int32)) (sv_d k_Mo_takesTest 131 rfl) (by decide) ?_
          refine sv_goto (pc := 241) (tgt := 245) (sv_d k_Mo_takesTest 132 rfl) (by decide) ?_
          refine sv_callV (pc := 245) (ψ := ss_v) (As := [.int (1 : Int32)]) (rest := []) (c := 187) (sv_d k_Mo_takesTest 134 rfl) g_Mo_push w1652 in_Mo_push se_Mo_push cf12 kd187 (ss_lt (by decide)) rfl (Nat.le_of_ble_eq_true rfl) (V_Mo_push E (d + 2) (1 : Int32) r5.2) (Nat.le_of_ble_eq_true rfl) rfl (fun r7 => ?_)
          show sv_V E _ _ _ 248 _ [] (ss_e r7) _
          refine sv_iconst (pc := 248) (v := (1 : Int32)) (sv_d k_Mo_takesTest 135 rfl) (by decide) ?_
          exact sv_ret (pc := 249) (sv_d k_Mo_takesTest 136 rfl) ⟨_, rfl, rfl⟩ rfl
      · refine sv_aload_n (pc := 206) 0 (sv_d k_Mo_takesTest 113 rfl) rfl rfl ?_
        refine sv_getf (pc := 207) 22 (sv_d k_Mo_takesTest 114 rfl) cf12 (by decide) w1324 kd187 (ss_lt (by decide)) (lr_187_22 E _) ?_
        refine sv_iload_n (pc := 210) 1 (sv_d k_Mo_takesTest 115 rfl) rfl rfl ?_
        refine ss_iald (pc := 211) (n := 7) (sv_d k_Mo_takesTest 116 rfl) kd202 (ss_lt (by decide)) rfl ?_
        refine sv_aload_n (pc := 212) 0 (sv_d k_Mo_takesTest 117 rfl) rfl rfl ?_
        refine sv_getf (pc := 213) 26 (sv_d k_Mo_takesTest 118 rfl) cf12 (by decide) w1328 kd187 (ss_lt (by decide)) rfl ?_
        refine sv_icmp_ge (pc := 216) (tgt := 223) (sv_d k_Mo_takesTest 119 rfl) (by decide) ?_ ?_
        · refine sv_iconst (pc := 223) (v := (0 : Int32)) (sv_d k_Mo_takesTest 122 rfl) (by decide) ?_
          refine sv_goto (pc := 224) (tgt := 245) (sv_d k_Mo_takesTest 123 rfl) (by decide) ?_
          refine sv_callV (pc := 245) (ψ := ss_v) (As := [.int (0 : Int32)]) (rest := []) (c := 187) (sv_d k_Mo_takesTest 134 rfl) g_Mo_push w1652 in_Mo_push se_Mo_push cf12 kd187 (ss_lt (by decide)) rfl (Nat.le_of_ble_eq_true rfl) (V_Mo_push E (d + 2) (0 : Int32) r5.2) (Nat.le_of_ble_eq_true rfl) rfl (fun r8 => ?_)
          show sv_V E _ _ _ 248 _ [] (ss_e r8) _
          refine sv_iconst (pc := 248) (v := (1 : Int32)) (sv_d k_Mo_takesTest 135 rfl) (by decide) ?_
          exact sv_ret (pc := 249) (sv_d k_Mo_takesTest 136 rfl) ⟨_, rfl, rfl⟩ rfl
        · refine sv_iconst (pc := 219) (v := (1 : Int32)) (sv_d k_Mo_takesTest 120 rfl) (by decide) ?_
          refine sv_goto (pc := 220) (tgt := 245) (sv_d k_Mo_takesTest 121 rfl) (by decide) ?_
          refine sv_callV (pc := 245) (ψ := ss_v) (As := [.int (1 : Int32)]) (rest := []) (c := 187) (sv_d k_Mo_takesTest 134 rfl) g_Mo_push w1652 in_Mo_push se_Mo_push cf12 kd187 (ss_lt (by decide)) rfl (Nat.le_of_ble_eq_true rfl) (V_Mo_push E (d + 2) (1 : Int32) r5.2) (Nat.le_of_ble_eq_true rfl) rfl (fun r9 => ?_)
          show sv_V E _ _ _ 248 _ [] (ss_e r9) _
          refine sv_iconst (pc := 248) (v := (1 : Int32)) (sv_d k_Mo_takesTest 135 rfl) (by decide) ?_
          exact sv_ret (pc := 249) (sv_d k_Mo_takesTest 136 rfl) ⟨_, rfl, rfl⟩ rfl
    · refine sv_aload_n (pc := 179) 0 (sv_d k_Mo_takesTest 99 rfl) rfl rfl ?_
      refine sv_getf (pc := 180) 22 (sv_d k_Mo_takesTest 100 rfl) cf12 (by decide) w1324 kd187 (ss_lt (by decide)) (lr_187_22 E _) ?_
      refine sv_iload_n (pc := 183) 1 (sv_d k_Mo_takesTest 101 rfl) rfl rfl ?_
      refine ss_iald (pc := 184) (n := 7) (sv_d k_Mo_takesTest 102 rfl) kd202 (ss_lt (by decide)) rfl ?_
      refine sv_aload_n (pc := 185) 0 (sv_d k_Mo_takesTest 103 rfl) rfl rfl ?_
      refine sv_getf (pc := 186) 26 (sv_d k_Mo_takesTest 104 rfl) cf12 (by decide) w1328 kd187 (ss_lt (by decide)) rfl ?_
      refine sv_icmp_ne (pc := 189) (tgt := 196) (sv_d k_Mo_takesTest 105 rfl) (by decide) ?_ ?_
      · refine sv_iconst (pc := 196) (v := (0 : Int32)) (sv_d k_Mo_takesTest 108 rfl) (by decide) ?_
        refine sv_goto (pc := 197) (tgt := 245) (sv_d k_Mo_takesTest 109 rfl) (by decide) ?_
        refine sv_callV (pc := 245) (ψ := ss_v) (As := [.int (0 : Int32)]) (rest := []) (c := 187) (sv_d k_Mo_takesTest 134 rfl) g_Mo_push w1652 in_Mo_push se_Mo_push cf12 kd187 (ss_lt (by decide)) rfl (Nat.le_of_ble_eq_true rfl) (V_Mo_push E (d + 2) (0 : Int32) r5.2) (Nat.le_of_ble_eq_true rfl) rfl (fun r10 => ?_)
        show sv_V E _ _ _ 248 _ [] (ss_e r10) _
        refine sv_iconst (pc := 248) (v := (1 : Int32)) (sv_d k_Mo_takesTest 135 rfl) (by decide) ?_
        exact sv_ret (pc := 249) (sv_d k_Mo_takesTest 136 rfl) ⟨_, rfl, rfl⟩ rfl
      · refine sv_iconst (pc := 192) (v := (1 : Int32)) (sv_d k_Mo_takesTest 106 rfl) (by decide) ?_
        refine sv_goto (pc := 193) (tgt := 245) (sv_d k_Mo_takesTest 107 rfl) (by decide) ?_
        refine sv_callV (pc := 245) (ψ := ss_v) (As := [.int (1 : Int32)]) (rest := []) (c := 187) (sv_d k_Mo_takesTest 134 rfl) g_Mo_push w1652 in_Mo_push se_Mo_push cf12 kd187 (ss_lt (by decide)) rfl (Nat.le_of_ble_eq_true rfl) (V_Mo_push E (d + 2) (1 : Int32) r5.2) (Nat.le_of_ble_eq_true rfl) rfl (fun r11 => ?_)
        show sv_V E _ _ _ 248 _ [] (ss_e r11) _
        refine sv_iconst (pc := 248) (v := (1 : Int32)) (sv_d k_Mo_takesTest 135 rfl) (by decide) ?_
        exact sv_ret (pc := 249) (sv_d k_Mo_takesTest 136 rfl) ⟨_, rfl, rfl⟩ rfl
  · refine sv_iconst (pc := 170) (v := (0 : Int32)) (sv_d k_Mo_takesTest 93 rfl) (by decide) ?_
    exact sv_ret (pc := 171) (sv_d k_Mo_takesTest 94 rfl) ⟨_, rfl, rfl⟩ rfl
def F_Mo_takesTest_b77 (t0 : Int32) (s : sv_S) : Option (Int32 × sv_S) :=
  if 0 ≤ t0 then
    ss_let (ss_setI s 187 25 ((s.1 187 25) + (1 : Int32))) fun s2 =>
    if t0 ≤ (4 : Int32) then
      (F_Mo_next s2).bind fun r3 =>
      if (3 : Int32) ≤ t0 then
        if r3 = (60 : Int32) then
          F_Mo_takesTest_b153 t0 r3 s2
        else
        if r3 = (62 : Int32) then
          F_Mo_takesTest_b153 t0 r3 s2
        else
        some ((0 : Int32), s2)
      else
      if r3 = (61 : Int32) then
        F_Mo_takesTest_b153 t0 r3 s2
      else
      some ((0 : Int32), s2)
    else
    if sv_ib t0 7 = true then
      if (s2.1 202 t0.toNatClampNeg) = (1 : Int32) then
        (F_Mo_push (1 : Int32) s2).bind fun r13 =>
        some ((1 : Int32), r13)
      else
      (F_Mo_push (0 : Int32) s2).bind fun r12 =>
      some ((1 : Int32), r12)
    else none
  else
  some ((0 : Int32), s)
theorem V_Mo_takesTest_b77 (E : sv_E) (d : Nat) (t0 : Int32) (s : sv_S) : sv_V E m_Mo_takesTest (d + 3) ss_i 77 [(0, sv_r E 187)] [.int t0] (ss_e s) (F_Mo_takesTest_b77 t0 s) := by
  unfold F_Mo_takesTest_b77
  refine sv_istore_n (pc := 77) (lv' := [(2, .int t0), (0, sv_r E 187)]) (sv_d k_Mo_takesTest 39 rfl) rfl (by decide) rfl ?_
  refine sv_iload_n (pc := 78) 0 (sv_d k_Mo_takesTest 40 rfl) rfl rfl ?_
  refine sv_if_ge (pc := 79) (tgt := 84) (sv_d k_Mo_takesTest 41 rfl) (by decide) ?_ ?_
  · refine sv_aload_n (pc := 84) 1 (sv_d k_Mo_takesTest 44 rfl) rfl rfl ?_
    refine sv_dup (pc := 85) (sv_d k_Mo_takesTest 45 rfl) rfl ?_
    refine sv_getf (pc := 86) 25 (sv_d k_Mo_takesTest 46 rfl) cf12 (by decide) w1327 kd187 (ss_lt (by decide)) rfl ?_
    refine sv_iconst (pc := 89) (v := (1 : Int32)) (sv_d k_Mo_takesTest 47 rfl) (by decide) ?_
    refine sv_iadd (pc := 90) (sv_d k_Mo_takesTest 48 rfl) ?_
    refine ss_putI (pc := 91) 25 (sv_d k_Mo_takesTest 49 rfl) cf12 (by decide) rfl w1327 kd187 (ss_lt (by decide)) rfl rfl (fun _ => rfl) (ss_lets (fun s2 e_s2 => ?_))
    refine sv_iload_n (pc := 94) 0 (sv_d k_Mo_takesTest 50 rfl) rfl rfl ?_
    refine sv_iconst (pc := 95) (v := (4 : Int32)) (sv_d k_Mo_takesTest 51 rfl) (by decide) ?_
    refine sv_icmp_le (pc := 96) (tgt := 120) (sv_d k_Mo_takesTest 52 rfl) (by decide) ?_ ?_
    · refine sv_aload_n (pc := 120) 1 (sv_d k_Mo_takesTest 66 rfl) rfl rfl ?_
      refine sv_callV (pc := 121) (ψ := (ss_pi s2)) (As := []) (rest := []) (c := 187) (sv_d k_Mo_takesTest 67 rfl) g_Mo_next w1606 in_Mo_next se_Mo_next cf12 kd187 (ss_lt (by decide)) rfl (Nat.le_of_ble_eq_true rfl) (V_Mo_next E (d + 2) s2) (Nat.le_of_ble_eq_true rfl) rfl (fun r3 => ?_)
      show sv_V E _ _ _ 124 _ [.int r3] (ss_e s2) _
      refine sv_istore_n (pc := 124) (lv' := [(3, .int r3), (2, .int t0), (0, sv_r E 187)]) (sv_d k_Mo_takesTest 68 rfl) rfl (by decide) rfl ?_
      refine sv_iload_n (pc := 125) 1 (sv_d k_Mo_takesTest 69 rfl) rfl rfl ?_
      refine sv_iconst (pc := 126) (v := (3 : Int32)) (sv_d k_Mo_takesTest 70 rfl) (by decide) ?_
      refine sv_icmp_ge (pc := 127) (tgt := 139) (sv_d k_Mo_takesTest 71 rfl) (by decide) ?_ ?_
      · refine sv_iload_n (pc := 139) 0 (sv_d k_Mo_takesTest 76 rfl) rfl rfl ?_
        refine sv_bipush (pc := 140) (v := (60 : Int32)) (sv_d k_Mo_takesTest 77 rfl) (by decide) ?_
        refine sv_icmp_eq (pc := 142) (tgt := 153) (sv_d k_Mo_takesTest 78 rfl) (by decide) ?_ ?_
        · exact sv_loc [2, 1, 0] rfl (V_Mo_takesTest_b153 E d t0 r3 s2)
        · refine sv_iload_n (pc := 145) 0 (sv_d k_Mo_takesTest 79 rfl) rfl rfl ?_
          refine sv_bipush (pc := 146) (v := (62 : Int32)) (sv_d k_Mo_takesTest 80 rfl) (by decide) ?_
          refine sv_icmp_eq (pc := 148) (tgt := 153) (sv_d k_Mo_takesTest 81 rfl) (by decide) ?_ ?_
          · exact sv_loc [2, 1, 0] rfl (V_Mo_takesTest_b153 E d t0 r3 s2)
          · refine sv_iconst (pc := 151) (v := (0 : Int32)) (sv_d k_Mo_takesTest 82 rfl) (by decide) ?_
            exact sv_ret (pc := 152) (sv_d k_Mo_takesTest 83 rfl) ⟨_, rfl, rfl⟩ rfl
      · refine sv_iload_n (pc := 130) 0 (sv_d k_Mo_takesTest 72 rfl) rfl rfl ?_
        refine sv_bipush (pc := 131) (v := (61 : Int32)) (sv_d k_Mo_takesTest 73 rfl) (by decide) ?_
        refine sv_icmp_eq (pc := 133) (tgt := 153) (sv_d k_Mo_takesTest 74 rfl) (by decide) ?_ ?_
        · exact sv_loc [2, 1, 0] rfl (V_Mo_takesTest_b153 E d t0 r3 s2)
        · refine sv_goto (pc := 136) (tgt := 151) (sv_d k_Mo_takesTest 75 rfl) (by decide) ?_
          refine sv_iconst (pc := 151) (v := (0 : Int32)) (sv_d k_Mo_takesTest 82 rfl) (by decide) ?_
          exact sv_ret (pc := 152) (sv_d k_Mo_takesTest 83 rfl) ⟨_, rfl, rfl⟩ rfl
    · refine sv_aload_n (pc := 99) 1 (sv_d k_Mo_takesTest 53 rfl) rfl rfl ?_
      refine sv_aload_n (pc := 100) 1 (sv_d k_Mo_takesTest 54 rfl) rfl rfl ?_
      refine sv_getf (pc := 101) 22 (sv_d k_Mo_takesTest 55 rfl) cf12 (by decide) w1324 kd187 (ss_lt (by decide)) (lr_187_22 E _) ?_
      refine sv_iload_n (pc := 104) 0 (sv_d k_Mo_takesTest 56 rfl) rfl rfl ?_
      refine ss_iald (pc := 105) (n := 7) (sv_d k_Mo_takesTest 57 rfl) kd202 (ss_lt (by decide)) rfl ?_
      refine sv_iconst (pc := 106) (v := (1 : Int32)) (sv_d k_Mo_takesTest 58 rfl) (by decide) ?_
      refine sv_icmp_ne (pc := 107) (tgt := 114) (sv_d k_Mo_takesTest 59 rfl) (by decide) ?_ ?_
      · refine sv_iconst (pc := 114) (v := (0 : Int32)) (sv_d k_Mo_takesTest 62 rfl) (by decide) ?_
        refine sv_callV (pc := 115) (ψ := ss_v) (As := [.int (0 : Int32)]) (rest := []) (c := 187) (sv_d k_Mo_takesTest 63 rfl) g_Mo_push w1652 in_Mo_push se_Mo_push cf12 kd187 (ss_lt (by decide)) rfl (Nat.le_of_ble_eq_true rfl) (V_Mo_push E (d + 2) (0 : Int32) s2) (Nat.le_of_ble_eq_true rfl) rfl (fun r12 => ?_)
        show sv_V E _ _ _ 118 _ [] (ss_e r12) _
        refine sv_iconst (pc := 118) (v := (1 : Int32)) (sv_d k_Mo_takesTest 64 rfl) (by decide) ?_
        exact sv_ret (pc := 119) (sv_d k_Mo_takesTest 65 rfl) ⟨_, rfl, rfl⟩ rfl
      · refine sv_iconst (pc := 110) (v := (1 : Int32)) (sv_d k_Mo_takesTest 60 rfl) (by decide) ?_
        refine sv_goto (pc := 111) (tgt := 115) (sv_d k_Mo_takesTest 61 rfl) (by decide) ?_
        refine sv_callV (pc := 115) (ψ := ss_v) (As := [.int (1 : Int32)]) (rest := []) (c := 187) (sv_d k_Mo_takesTest 63 rfl) g_Mo_push w1652 in_Mo_push se_Mo_push cf12 kd187 (ss_lt (by decide)) rfl (Nat.le_of_ble_eq_true rfl) (V_Mo_push E (d + 2) (1 : Int32) s2) (Nat.le_of_ble_eq_true rfl) rfl (fun r13 => ?_)
        show sv_V E _ _ _ 118 _ [] (ss_e r13) _
        refine sv_iconst (pc := 118) (v := (1 : Int32)) (sv_d k_Mo_takesTest 64 rfl) (by decide) ?_
        exact sv_ret (pc := 119) (sv_d k_Mo_takesTest 65 rfl) ⟨_, rfl, rfl⟩ rfl
  · refine sv_iconst (pc := 82) (v := (0 : Int32)) (sv_d k_Mo_takesTest 42 rfl) (by decide) ?_
    exact sv_ret (pc := 83) (sv_d k_Mo_takesTest 43 rfl) ⟨_, rfl, rfl⟩ rfl
def F_Mo_takesTest (s : sv_S) : Option (Int32 × sv_S) :=
  (F_Mo_next s).bind fun r1 =>
  if r1 = (103 : Int32) then
    F_Mo_takesTest_b77 (0 : Int32) s
  else
  if r1 = (99 : Int32) then
    F_Mo_takesTest_b77 (1 : Int32) s
  else
  if r1 = (111 : Int32) then
    F_Mo_takesTest_b77 (2 : Int32) s
  else
  if r1 = (116 : Int32) then
    F_Mo_takesTest_b77 (3 : Int32) s
  else
  if r1 = (100 : Int32) then
    F_Mo_takesTest_b77 (4 : Int32) s
  else
  if r1 = (98 : Int32) then
    F_Mo_takesTest_b77 (5 : Int32) s
  else
  if r1 = (120 : Int32) then
    F_Mo_takesTest_b77 (6 : Int32) s
  else
  F_Mo_takesTest_b77 (-1 : Int32) s
theorem V_Mo_takesTest (E : sv_E) (d : Nat) (s : sv_S) : sv_V E m_Mo_takesTest (d + 3) ss_i 0 (lv_args 0 [sv_r E 187]) [] (ss_e s) (F_Mo_takesTest s) := by
  show sv_V E m_Mo_takesTest (d + 3) ss_i 0 [(0, sv_r E 187)] [] (ss_e s) _
  unfold F_Mo_takesTest
  refine sv_aload_n (pc := 0) 0 (sv_d k_Mo_takesTest 0 rfl) rfl rfl ?_
  refine sv_callV (pc := 1) (ψ := (ss_pi s)) (As := []) (rest := []) (c := 187) (sv_d k_Mo_takesTest 1 rfl) g_Mo_next w1606 in_Mo_next se_Mo_next cf12 kd187 (ss_lt (by decide)) rfl (Nat.le_of_ble_eq_true rfl) (V_Mo_next E (d + 2) s) (Nat.le_of_ble_eq_true rfl) rfl (fun r1 => ?_)
  show sv_V E _ _ _ 4 _ [.int r1] (ss_e s) _
  refine sv_istore_n (pc := 4) (lv' := [(1, .int r1), (0, sv_r E 187)]) (sv_d k_Mo_takesTest 2 rfl) rfl (by decide) rfl ?_
  refine sv_iload_n (pc := 5) 0 (sv_d k_Mo_takesTest 3 rfl) rfl rfl ?_
  refine sv_bipush (pc := 6) (v := (103 : Int32)) (sv_d k_Mo_takesTest 4 rfl) (by decide) ?_
  refine sv_icmp_ne (pc := 8) (tgt := 15) (sv_d k_Mo_takesTest 5 rfl) (by decide) ?_ ?_
  · refine sv_iload_n (pc := 15) 0 (sv_d k_Mo_takesTest 8 rfl) rfl rfl ?_
    refine sv_bipush (pc := 16) (v := (99 : Int32)) (sv_d k_Mo_takesTest 9 rfl) (by decide) ?_
    refine sv_icmp_ne (pc := 18) (tgt := 25) (sv_d k_Mo_takesTest 10 rfl) (by decide) ?_ ?_
    · refine sv_iload_n (pc := 25) 0 (sv_d k_Mo_takesTest 13 rfl) rfl rfl ?_
      refine sv_bipush (pc := 26) (v := (111 : Int32)) (sv_d k_Mo_takesTest 14 rfl) (by decide) ?_
      refine sv_icmp_ne (pc := 28) (tgt := 35) (sv_d k_Mo_takesTest 15 rfl) (by decide) ?_ ?_
      · refine sv_iload_n (pc := 35) 0 (sv_d k_Mo_takesTest 18 rfl) rfl rfl ?_
        refine sv_bipush (pc := 36) (v := (116 : Int32)) (sv_d k_Mo_takesTest 19 rfl) (by decide) ?_
        refine sv_icmp_ne (pc := 38) (tgt := 45) (sv_d k_Mo_takesTest 20 rfl) (by decide) ?_ ?_
        · refine sv_iload_n (pc := 45) 0 (sv_d k_Mo_takesTest 23 rfl) rfl rfl ?_
          refine sv_bipush (pc := 46) (v := (100 : Int32)) (sv_d k_Mo_takesTest 24 rfl) (by decide) ?_
          refine sv_icmp_ne (pc := 48) (tgt := 55) (sv_d k_Mo_takesTest 25 rfl) (by decide) ?_ ?_
          · refine sv_iload_n (pc := 55) 0 (sv_d k_Mo_takesTest 28 rfl) rfl rfl ?_
            refine sv_bipush (pc := 56) (v := (98 : Int32)) (sv_d k_Mo_takesTest 29 rfl) (by decide) ?_
            refine sv_icmp_ne (pc := 58) (tgt := 65) (sv_d k_Mo_takesTest 30 rfl) (by decide) ?_ ?_
            · refine sv_iload_n (pc := 65) 0 (sv_d k_Mo_takesTest 33 rfl) rfl rfl ?_
              refine sv_bipush (pc := 66) (v := (120 : Int32)) (sv_d k_Mo_takesTest 34 rfl) (by decide) ?_
              refine sv_icmp_ne (pc := 68) (tgt := 76) (sv_d k_Mo_takesTest 35 rfl) (by decide) ?_ ?_
              · refine sv_iconst (pc := 76) (v := (-1 : Int32)) (sv_d k_Mo_takesTest 38 rfl) (by decide) ?_
                exact sv_loc [1] rfl (V_Mo_takesTest_b77 E d (-1 : Int32) s)
              · refine sv_bipush (pc := 71) (v := (6 : Int32)) (sv_d k_Mo_takesTest 36 rfl) (by decide) ?_
                refine sv_goto (pc := 73) (tgt := 77) (sv_d k_Mo_takesTest 37 rfl) (by decide) ?_
                exact sv_loc [1] rfl (V_Mo_takesTest_b77 E d (6 : Int32) s)
            · refine sv_iconst (pc := 61) (v := (5 : Int32)) (sv_d k_Mo_takesTest 31 rfl) (by decide) ?_
              refine sv_goto (pc := 62) (tgt := 77) (sv_d k_Mo_takesTest 32 rfl) (by decide) ?_
              exact sv_loc [1] rfl (V_Mo_takesTest_b77 E d (5 : Int32) s)
          · refine sv_iconst (pc := 51) (v := (4 : Int32)) (sv_d k_Mo_takesTest 26 rfl) (by decide) ?_
            refine sv_goto (pc := 52) (tgt := 77) (sv_d k_Mo_takesTest 27 rfl) (by decide) ?_
            exact sv_loc [1] rfl (V_Mo_takesTest_b77 E d (4 : Int32) s)
        · refine sv_iconst (pc := 41) (v := (3 : Int32)) (sv_d k_Mo_takesTest 21 rfl) (by decide) ?_
          refine sv_goto (pc := 42) (tgt := 77) (sv_d k_Mo_takesTest 22 rfl) (by decide) ?_
          exact sv_loc [1] rfl (V_Mo_takesTest_b77 E d (3 : Int32) s)
      · refine sv_iconst (pc := 31) (v := (2 : Int32)) (sv_d k_Mo_takesTest 16 rfl) (by decide) ?_
        refine sv_goto (pc := 32) (tgt := 77) (sv_d k_Mo_takesTest 17 rfl) (by decide) ?_
        exact sv_loc [1] rfl (V_Mo_takesTest_b77 E d (2 : Int32) s)
    · refine sv_iconst (pc := 21) (v := (1 : Int32)) (sv_d k_Mo_takesTest 11 rfl) (by decide) ?_
      refine sv_goto (pc := 22) (tgt := 77) (sv_d k_Mo_takesTest 12 rfl) (by decide) ?_
      exact sv_loc [1] rfl (V_Mo_takesTest_b77 E d (1 : Int32) s)
  · refine sv_iconst (pc := 11) (v := (0 : Int32)) (sv_d k_Mo_takesTest 6 rfl) (by decide) ?_
    refine sv_goto (pc := 12) (tgt := 77) (sv_d k_Mo_takesTest 7 rfl) (by decide) ?_
    exact sv_loc [1] rfl (V_Mo_takesTest_b77 E d (0 : Int32) s)
/-! Mo_settle -/
abbrev m_Mo_settle : sv_M := (yX12_settle, cX12_settle, 2, none)
def t_Mo_settle : List (Nat × Instr × Nat) := [(0, .aload_n 0, 1), (1, .getfield 100, 3), (4, .ifCond .le 154, 3), (7, .aload_n 0, 1), (8, .getfield 93, 3), (11, .aload_n 0, 1), (12, .getfield 100, 3), (15, .iconst 1, 1), (16, .isub, 1), (17, .iaload, 1), (18, .bipush 38, 2), (20, .if_icmp .eq 25, 3), (23, .aload_n 0, 1), (24, .getfield 93, 3), (27, .aload_n 0, 1), (28, .getfield 100, 3), (31, .iconst 1, 1), (32, .isub, 1), (33, .iaload, 1), (34, .bipush 124, 2), (36, .if_icmp .ne 122, 3), (39, .iload_n 1, 1), (40, .bipush 38, 2), (42, .if_icmp .eq 116, 3), (45, .aload_n 0, 1), (46, .dup, 1), (47, .getfield 100, 3), (50, .iconst 1, 1), (51, .isub, 1), (52, .putfield 100, 3), (55, .aload_n 0, 1), (56, .dup, 1), (57, .getfield 103, 3), (60, .iconst 1, 1), (61, .isub, 1), (62, .putfield 103, 3), (65, .aload_n 0, 1), (66, .getfield 96, 3), (69, .aload_n 0, 1), (70, .getfield 103, 3), (73, .iconst 1, 1), (74, .isub, 1), (75, .aload_n 0, 1), (76, .getfield 93, 3), (79, .aload_n 0, 1), (80, .getfield 100, 3), (83, .iaload, 1), (84, .bipush 38, 2), (86, .if_icmp .ne 37, 3), (89, .aload_n 0, 1), (90, .getfield 96, 3), (93, .aload_n 0, 1), (94, .getfield 103, 3), (97, .iconst 1, 1), (98, .isub, 1), (99, .baload, 1), (100, .ifCond .eq 19, 3), (103, .aload_n 0, 1), (104, .getfield 96, 3), (107, .aload_n 0, 1), (108, .getfield 103, 3), (111, .baload, 1), (112, .ifCond .eq 7, 3), (115, .iconst 1, 1), (116, .goto 38, 3), (119, .iconst 0, 1), (120, .goto 34, 3), (123, .aload_n 0, 1), (124, .getfield 96, 3), (127, .aload_n 0, 1), (128, .getfield 103, 3), (131, .iconst 1, 1), (132, .isub, 1), (133, .baload, 1), (134, .ifCond .ne 15, 3), (137, .aload_n 0, 1), (138, .getfield 96, 3), (141, .aload_n 0, 1), (142, .getfield 103, 3), (145, .baload, 1), (146, .ifCond .eq 7, 3), (149, .iconst 1, 1), (150, .goto 4, 3), (153, .iconst 0, 1), (154, .bastore, 1), (155, .goto (-155), 3), (158, .return_, 1)]
theorem k_Mo_settle : sv_tk m_Mo_settle.2.1 t_Mo_settle := by decide +kernel
theorem g_Mo_settle : sv_G m_Mo_settle 1 := ⟨by decide +kernel, sv_in 1659 (by decide +kernel) rfl, sv_in 103 (by decide +kernel) rfl, ⟨by decide, by decide⟩, by decide +kernel, by decide⟩
theorem in_Mo_settle : Cond.instanceMethod m_Mo_settle.1 ∈ sv_T := sv_in 1658 (by decide +kernel) rfl
theorem se_Mo_settle : Cond.selects m_Mo_settle.1.cls m_Mo_settle.1 m_Mo_settle.1 ∈ sv_T := sv_in 55 (by decide +kernel) rfl
def F_Mo_settle_b154 (kc0 : Int32 → sv_S → Option (sv_S)) (x1 : Int32) (t1 : Int32) (t2 : Int32) (s : sv_S) : Option (sv_S) :=
  if sv_ib t1 141 = true then
    ss_let (ss_setI s 204 t1.toNatClampNeg (t2 &&& 1)) fun s3 =>
    kc0 x1 s3
  else none
theorem V_Mo_settle_b154 (E : sv_E) (d : Nat) (kc0 : Int32 → sv_S → Option (sv_S)) (hc0 : ∀ (x1 : Int32) (s : sv_S), sv_V E m_Mo_settle (d + 0) ss_v 0 [(0, sv_r E 187), (1, .int x1)] [] (ss_e s) (kc0 x1 s)) (x1 : Int32) (t1 : Int32) (t2 : Int32) (s : sv_S) : sv_V E m_Mo_settle (d + 0) ss_v 154 [(0, sv_r E 187), (1, .int x1)] [.int t2, .int t1, sv_r E 204] (ss_e s) (F_Mo_settle_b154 kc0 x1 t1 t2 s) := by
  unfold F_Mo_settle_b154
  refine ss_zast (pc := 154) (n := 141) (sv_d k_Mo_settle 84 rfl) kd204 (by decide) (ss_lt (by decide)) rfl (ss_lets (fun s3 e_s3 => ?_))
  refine sv_goto (pc := 155) (tgt := 0) (sv_d k_Mo_settle 85 rfl) (by decide) ?_
  exact sv_loc [0, 1] rfl (hc0 x1 s3)
def F_Mo_settle_b149 (kc0 : Int32 → sv_S → Option (sv_S)) (x1 : Int32) (t1 : Int32) (s : sv_S) : Option (sv_S) :=
  F_Mo_settle_b154 kc0 x1 t1 (1 : Int32) s
theorem V_Mo_settle_b149 (E : sv_E) (d : Nat) (kc0 : Int32 → sv_S → Option (sv_S)) (hc0 : ∀ (x1 : Int32) (s : sv_S), sv_V E m_Mo_settle (d + 0) ss_v 0 [(0, sv_r E 187), (1, .int x1)] [] (ss_e s) (kc0 x1 s)) (x1 : Int32) (t1 : Int32) (s : sv_S) : sv_V E m_Mo_settle (d + 0) ss_v 149 [(0, sv_r E 187), (1, .int x1)] [.int t1, sv_r E 204] (ss_e s) (F_Mo_settle_b149 kc0 x1 t1 s) := by
  unfold F_Mo_settle_b149
  refine sv_iconst (pc := 149) (v := (1 : Int32)) (sv_d k_Mo_settle 81 rfl) (by decide) ?_
  refine sv_goto (pc := 150) (tgt := 154) (sv_d k_Mo_settle 82 rfl) (by decide) ?_
  exact sv_loc [0, 1] rfl (V_Mo_settle_b154 E d kc0 hc0 x1 t1 (1 : Int32) s)
def F_Mo_settle_b119 (kc0 : Int32 → sv_S → Option (sv_S)) (x1 : Int32) (t1 : Int32) (s : sv_S) : Option (sv_S) :=
  F_Mo_settle_b154 kc0 x1 t1 (0 : Int32) s
theorem V_Mo_settle_b119 (E : sv_E) (d : Nat) (kc0 : Int32 → sv_S → Option (sv_S)) (hc0 : ∀ (x1 : Int32) (s : sv_S), sv_V E m_Mo_settle (d + 0) ss_v 0 [(0, sv_r E 187), (1, .int x1)] [] (ss_e s) (kc0 x1 s)) (x1 : Int32) (t1 : Int32) (s : sv_S) : sv_V E m_Mo_settle (d + 0) ss_v 119 [(0, sv_r E 187), (1, .int x1)] [.int t1, sv_r E 204] (ss_e s) (F_Mo_settle_b119 kc0 x1 t1 s) := by
  unfold F_Mo_settle_b119
  refine sv_iconst (pc := 119) (v := (0 : Int32)) (sv_d k_Mo_settle 65 rfl) (by decide) ?_
  refine sv_goto (pc := 120) (tgt := 154) (sv_d k_Mo_settle 66 rfl) (by decide) ?_
  exact sv_loc [0, 1] rfl (V_Mo_settle_b154 E d kc0 hc0 x1 t1 (0 : Int32) s)
def F_Mo_settle_b45 (kc0 : Int32 → sv_S → Option (sv_S)) (x1 : Int32) (s : sv_S) : Option (sv_S) :=
  ss_let (ss_setI s 187 29 ((s.1 187 29) - (1 : Int32))) fun s1 =>
  ss_let (ss_setI s1 187 30 ((s1.1 187 30) - (1 : Int32))) fun s2 =>
  if sv_ib (s2.1 187 29) 141 = true then
    if (s2.1 203 (s2.1 187 29).toNatClampNeg) = (38 : Int32) then
      if sv_ib ((s2.1 187 30) - (1 : Int32)) 141 = true then
        if (s2.1 204 ((s2.1 187 30) - (1 : Int32)).toNatClampNeg) = 0 then
          F_Mo_settle_b119 kc0 x1 ((s2.1 187 30) - (1 : Int32)) s2
        else
        if sv_ib (s2.1 187 30) 141 = true then
          if (s2.1 204 (s2.1 187 30).toNatClampNeg) = 0 then
            F_Mo_settle_b119 kc0 x1 ((s2.1 187 30) - (1 : Int32)) s2
          else
          F_Mo_settle_b154 kc0 x1 ((s2.1 187 30) - (1 : Int32)) (1 : Int32) s2
        else none
      else none
    else
    if sv_ib ((s2.1 187 30) - (1 : Int32)) 141 = true then
      if (s2.1 204 ((s2.1 187 30) - (1 : Int32)).toNatClampNeg) = 0 then
        if sv_ib (s2.1 187 30) 141 = true then
          if (s2.1 204 (s2.1 187 30).toNatClampNeg) = 0 then
            F_Mo_settle_b154 kc0 x1 ((s2.1 187 30) - (1 : Int32)) (0 : Int32) s2
          else
          F_Mo_settle_b149 kc0 x1 ((s2.1 187 30) - (1 : Int32)) s2
        else none
      else
      F_Mo_settle_b149 kc0 x1 ((s2.1 187 30) - (1 : Int32)) s2
    else none
  else none
theorem V_Mo_settle_b45 (E : sv_E) (d : Nat) (kc0 : Int32 → sv_S → Option (sv_S)) (hc0 : ∀ (x1 : Int32) (s : sv_S), sv_V E m_Mo_settle (d + 0) ss_v 0 [(0, sv_r E 187), (1, .int x1)] [] (ss_e s) (kc0 x1 s)) (x1 : Int32) (s : sv_S) : sv_V E m_Mo_settle (d + 0) ss_v 45 [(0, sv_r E 187), (1, .int x1)] [] (ss_e s) (F_Mo_settle_b45 kc0 x1 s) := by
  unfold F_Mo_settle_b45
  refine sv_aload_n (pc := 45) 0 (sv_d k_Mo_settle 24 rfl) rfl rfl ?_
  refine sv_dup (pc := 46) (sv_d k_Mo_settle 25 rfl) rfl ?_
  refine sv_getf (pc := 47) 29 (sv_d k_Mo_settle 26 rfl) cf12 (by decide) w1331 kd187 (ss_lt (by decide)) rfl ?_
  refine sv_iconst (pc := 50) (v := (1 : Int32)) (sv_d k_Mo_settle 27 rfl) (by decide) ?_
  refine sv_isub (pc := 51) (sv_d k_Mo_settle 28 rfl) ?_
  refine ss_putI (pc := 52) 29 (sv_d k_Mo_settle 29 rfl) cf12 (by decide) rfl w1331 kd187 (ss_lt (by decide)) rfl rfl (fun _ => rfl) (ss_lets (fun s1 e_s1 => ?_))
  refine sv_aload_n (pc := 55) 0 (sv_d k_Mo_settle 30 rfl) rfl rfl ?_
  refine sv_dup (pc := 56) (sv_d k_Mo_settle 31 rfl) rfl ?_
  refine sv_getf (pc := 57) 30 (sv_d k_Mo_settle 32 rfl) cf12 (by decide) w1332 kd187 (ss_lt (by decide)) rfl ?_
  refine sv_iconst (pc := 60) (v := (1 : Int32)) (sv_d k_Mo_settle 33 rfl) (by decide) ?_
  refine sv_isub (pc := 61) (sv_d k_Mo_settle 34 rfl) ?_
  refine ss_putI (pc := 62) 30 (sv_d k_Mo_settle 35 rfl) cf12 (by decide) rfl w1332 kd187 (ss_lt (by decide)) rfl rfl (fun _ => rfl) (ss_lets (fun s2 e_s2 => ?_))
  refine sv_aload_n (pc := 65) 0 (sv_d k_Mo_settle 36 rfl) rfl rfl ?_
  refine sv_getf (pc := 66) 28 (sv_d k_Mo_settle 37 rfl) cf12 (by decide) w1330 kd187 (ss_lt (by decide)) (lr_187_28 E _) ?_
  refine sv_aload_n (pc := 69) 0 (sv_d k_Mo_settle 38 rfl) rfl rfl ?_
  refine sv_getf (pc := 70) 30 (sv_d k_Mo_settle 39 rfl) cf12 (by decide) w1332 kd187 (ss_lt (by decide)) rfl ?_
  refine sv_iconst (pc := 73) (v := (1 : Int32)) (sv_d k_Mo_settle 40 rfl) (by decide) ?_
  refine sv_isub (pc := 74) (sv_d k_Mo_settle 41 rfl) ?_
  refine sv_aload_n (pc := 75) 0 (sv_d k_Mo_settle 42 rfl) rfl rfl ?_
  refine sv_getf (pc := 76) 27 (sv_d k_Mo_settle 43 rfl) cf12 (by decide) w1329 kd187 (ss_lt (by decide)) (lr_187_27 E _) ?_
  refine sv_aload_n (pc := 79) 0 (sv_d k_Mo_settle 44 rfl) rfl rfl ?_
  refine sv_getf (pc := 80) 29 (sv_d k_Mo_settle 45 rfl) cf12 (by decide) w1331 kd187 (ss_lt (by decide)) rfl ?_
  refine ss_iald (pc := 83) (n := 141) (sv_d k_Mo_settle 46 rfl) kd203 (ss_lt (by decide)) rfl ?_
  refine sv_bipush (pc := 84) (v := (38 : Int32)) (sv_d k_Mo_settle 47 rfl) (by decide) ?_
  refine sv_icmp_ne (pc := 86) (tgt := 123) (sv_d k_Mo_settle 48 rfl) (by decide) ?_ ?_
  · refine sv_aload_n (pc := 123) 0 (sv_d k_Mo_settle 67 rfl) rfl rfl ?_
    refine sv_getf (pc := 124) 28 (sv_d k_Mo_settle 68 rfl) cf12 (by decide) w1330 kd187 (ss_lt (by decide)) (lr_187_28 E _) ?_
    refine sv_aload_n (pc := 127) 0 (sv_d k_Mo_settle 69 rfl) rfl rfl ?_
    refine sv_getf (pc := 128) 30 (sv_d k_Mo_settle 70 rfl) cf12 (by decide) w1332 kd187 (ss_lt (by decide)) rfl ?_
    refine sv_iconst (pc := 131) (v := (1 : Int32)) (sv_d k_Mo_settle 71 rfl) (by decide) ?_
    refine sv_isub (pc := 132) (sv_d k_Mo_settle 72 rfl) ?_
    refine ss_zald (pc := 133) (n := 141) (sv_d k_Mo_settle 73 rfl) kd204 (ss_lt (by decide)) rfl ?_
    refine sv_if_ne (pc := 134) (tgt := 149) (sv_d k_Mo_settle 74 rfl) (by decide) ?_ ?_
    · exact sv_loc [0, 1] rfl (V_Mo_settle_b149 E d kc0 hc0 x1 ((s2.1 187 30) - (1 : Int32)) s2)
    · refine sv_aload_n (pc := 137) 0 (sv_d k_Mo_settle 75 rfl) rfl rfl ?_
      refine sv_getf (pc := 138) 28 (sv_d k_Mo_settle 76 rfl) cf12 (by decide) w1330 kd187 (ss_lt (by decide)) (lr_187_28 E _) ?_
      refine sv_aload_n (pc := 141) 0 (sv_d k_Mo_settle 77 rfl) rfl rfl ?_
      refine sv_getf (pc := 142) 30 (sv_d k_Mo_settle 78 rfl) cf12 (by decide) w1332 kd187 (ss_lt (by decide)) rfl ?_
      refine ss_zald (pc := 145) (n := 141) (sv_d k_Mo_settle 79 rfl) kd204 (ss_lt (by decide)) rfl ?_
      refine sv_if_eq (pc := 146) (tgt := 153) (sv_d k_Mo_settle 80 rfl) (by decide) ?_ ?_
      · refine sv_iconst (pc := 153) (v := (0 : Int32)) (sv_d k_Mo_settle 83 rfl) (by decide) ?_
        exact sv_loc [0, 1] rfl (V_Mo_settle_b154 E d kc0 hc0 x1 ((s2.1 187 30) - (1 : Int32)) (0 : Int32) s2)
      · exact sv_loc [0, 1] rfl (V_Mo_settle_b149 E d kc0 hc0 x1 ((s2.1 187 30) - (1 : Int32)) s2)
  · refine sv_aload_n (pc := 89) 0 (sv_d k_Mo_settle 49 rfl) rfl rfl ?_
    refine sv_getf (pc := 90) 28 (sv_d k_Mo_settle 50 rfl) cf12 (by decide) w1330 kd187 (ss_lt (by decide)) (lr_187_28 E _) ?_
    refine sv_aload_n (pc := 93) 0 (sv_d k_Mo_settle 51 rfl) rfl rfl ?_
    refine sv_getf (pc := 94) 30 (sv_d k_Mo_settle 52 rfl) cf12 (by decide) w1332 kd187 (ss_lt (by decide)) rfl ?_
    refine sv_iconst (pc := 97) (v := (1 : Int32)) (sv_d k_Mo_settle 53 rfl) (by decide) ?_
    refine sv_isub (pc := 98) (sv_d k_Mo_settle 54 rfl) ?_
    refine ss_zald (pc := 99) (n := 141) (sv_d k_Mo_settle 55 rfl) kd204 (ss_lt (by decide)) rfl ?_
    refine sv_if_eq (pc := 100) (tgt := 119) (sv_d k_Mo_settle 56 rfl) (by decide) ?_ ?_
    · exact sv_loc [0, 1] rfl (V_Mo_settle_b119 E d kc0 hc0 x1 ((s2.1 187 30) - (1 : Int32)) s2)
    · refine sv_aload_n (pc := 103) 0 (sv_d k_Mo_settle 57 rfl) rfl rfl ?_
      refine sv_getf (pc := 104) 28 (sv_d k_Mo_settle 58 rfl) cf12 (by decide) w1330 kd187 (ss_lt (by decide)) (lr_187_28 E _) ?_
      refine sv_aload_n (pc := 107) 0 (sv_d k_Mo_settle 59 rfl) rfl rfl ?_
      refine sv_getf (pc := 108) 30 (sv_d k_Mo_settle 60 rfl) cf12 (by decide) w1332 kd187 (ss_lt (by decide)) rfl ?_
      refine ss_zald (pc := 111) (n := 141) (sv_d k_Mo_settle 61 rfl) kd204 (ss_lt (by decide)) rfl ?_
      refine sv_if_eq (pc := 112) (tgt := 119) (sv_d k_Mo_settle 62 rfl) (by decide) ?_ ?_
      · exact sv_loc [0, 1] rfl (V_Mo_settle_b119 E d kc0 hc0 x1 ((s2.1 187 30) - (1 : Int32)) s2)
      · refine sv_iconst (pc := 115) (v := (1 : Int32)) (sv_d k_Mo_settle 63 rfl) (by decide) ?_
        refine sv_goto (pc := 116) (tgt := 154) (sv_d k_Mo_settle 64 rfl) (by decide) ?_
        exact sv_loc [0, 1] rfl (V_Mo_settle_b154 E d kc0 hc0 x1 ((s2.1 187 30) - (1 : Int32)) (1 : Int32) s2)
def F_Mo_settle_b0 : Nat → Int32 → sv_S → Option (sv_S)
  | 0 => fun _ _ => none
  | n + 1 => fun x1 s =>
    if (s.1 187 29) ≤ 0 then
      some s
    else
    if sv_ib ((s.1 187 29) - (1 : Int32)) 141 = true then
      if (s.1 203 ((s.1 187 29) - (1 : Int32)).toNatClampNeg) = (38 : Int32) then
        F_Mo_settle_b45 (F_Mo_settle_b0  n) x1 s
      else
      if sv_ib ((s.1 187 29) - (1 : Int32)) 141 = true then
        if (s.1 203 ((s.1 187 29) - (1 : Int32)).toNatClampNeg) = (124 : Int32) then
          if x1 = (38 : Int32) then
            some s
          else
          F_Mo_settle_b45 (F_Mo_settle_b0  n) x1 s
        else
        some s
      else none
    else none
theorem V_Mo_settle_b0 (E : sv_E) (d : Nat) : ∀ (n : Nat) (x1 : Int32) (s : sv_S), sv_V E m_Mo_settle (d + 0) ss_v 0 [(0, sv_r E 187), (1, .int x1)] [] (ss_e s) (F_Mo_settle_b0 n x1 s) := by
  intro n
  induction n with
  | zero => intro x1 s; exact sv_none
  | succ n ih =>
    intro x1 s
    unfold F_Mo_settle_b0
    refine sv_aload_n (pc := 0) 0 (sv_d k_Mo_settle 0 rfl) rfl rfl ?_
    refine sv_getf (pc := 1) 29 (sv_d k_Mo_settle 1 rfl) cf12 (by decide) w1331 kd187 (ss_lt (by decide)) rfl ?_
    refine sv_if_le (pc := 4) (tgt := 158) (sv_d k_Mo_settle 2 rfl) (by decide) ?_ ?_
    · exact sv_retv (pc := 158) (sv_d k_Mo_settle 86 rfl) rfl rfl
    · refine sv_aload_n (pc := 7) 0 (sv_d k_Mo_settle 3 rfl) rfl rfl ?_
      refine sv_getf (pc := 8) 27 (sv_d k_Mo_settle 4 rfl) cf12 (by decide) w1329 kd187 (ss_lt (by decide)) (lr_187_27 E _) ?_
      refine sv_aload_n (pc := 11) 0 (sv_d k_Mo_settle 5 rfl) rfl rfl ?_
      refine sv_getf (pc := 12) 29 (sv_d k_Mo_settle 6 rfl) cf12 (by decide) w1331 kd187 (ss_lt (by decide)) rfl ?_
      refine sv_iconst (pc := 15) (v := (1 : Int32)) (sv_d k_Mo_settle 7 rfl) (by decide) ?_
      refine sv_isub (pc := 16) (sv_d k_Mo_settle 8 rfl) ?_
      refine ss_iald (pc := 17) (n := 141) (sv_d k_Mo_settle 9 rfl) kd203 (ss_lt (by decide)) rfl ?_
      refine sv_bipush (pc := 18) (v := (38 : Int32)) (sv_d k_Mo_settle 10 rfl) (by decide) ?_
      refine sv_icmp_eq (pc := 20) (tgt := 45) (sv_d k_Mo_settle 11 rfl) (by decide) ?_ ?_
      · exact sv_loc [0, 1] rfl (V_Mo_settle_b45 E d (F_Mo_settle_b0  n) ih x1 s)
      · refine sv_aload_n (pc := 23) 0 (sv_d k_Mo_settle 12 rfl) rfl rfl ?_
        refine sv_getf (pc := 24) 27 (sv_d k_Mo_settle 13 rfl) cf12 (by decide) w1329 kd187 (ss_lt (by decide)) (lr_187_27 E _) ?_
        refine sv_aload_n (pc := 27) 0 (sv_d k_Mo_settle 14 rfl) rfl rfl ?_
        refine sv_getf (pc := 28) 29 (sv_d k_Mo_settle 15 rfl) cf12 (by decide) w1331 kd187 (ss_lt (by decide)) rfl ?_
        refine sv_iconst (pc := 31) (v := (1 : Int32)) (sv_d k_Mo_settle 16 rfl) (by decide) ?_
        refine sv_isub (pc := 32) (sv_d k_Mo_settle 17 rfl) ?_
        refine ss_iald (pc := 33) (n := 141) (sv_d k_Mo_settle 18 rfl) kd203 (ss_lt (by decide)) rfl ?_
        refine sv_bipush (pc := 34) (v := (124 : Int32)) (sv_d k_Mo_settle 19 rfl) (by decide) ?_
        refine sv_icmp_ne (pc := 36) (tgt := 158) (sv_d k_Mo_settle 20 rfl) (by decide) ?_ ?_
        · exact sv_retv (pc := 158) (sv_d k_Mo_settle 86 rfl) rfl rfl
        · refine sv_iload_n (pc := 39) 1 (sv_d k_Mo_settle 21 rfl) rfl rfl ?_
          refine sv_bipush (pc := 40) (v := (38 : Int32)) (sv_d k_Mo_settle 22 rfl) (by decide) ?_
          refine sv_icmp_eq (pc := 42) (tgt := 158) (sv_d k_Mo_settle 23 rfl) (by decide) ?_ ?_
          · exact sv_retv (pc := 158) (sv_d k_Mo_settle 86 rfl) rfl rfl
          · exact sv_loc [0, 1] rfl (V_Mo_settle_b45 E d (F_Mo_settle_b0  n) ih x1 s)
def F_Mo_settle (x1 : Int32) (s : sv_S) : Option (sv_S) :=
  F_Mo_settle_b0 ss_F x1 s
theorem V_Mo_settle (E : sv_E) (d : Nat) (x1 : Int32) (s : sv_S) : sv_V E m_Mo_settle (d + 0) ss_v 0 (lv_args 0 [sv_r E 187, .int x1]) [] (ss_e s) (F_Mo_settle x1 s) := by
  show sv_V E m_Mo_settle (d + 0) ss_v 0 [(0, sv_r E 187), (1, .int x1)] [] (ss_e s) _
  unfold F_Mo_settle
  exact sv_loc [0, 1] rfl (V_Mo_settle_b0 E d ss_F x1 s)
/-! Mo_takesE -/
abbrev m_Mo_takesE : sv_M := (yX12_takesE, cX12_takesE, 3, (some .boolean))
def t_Mo_takesE : List (Nat × Instr × Nat) := [(0, .aload_n 0, 1), (1, .iconst 0, 1), (2, .putfield 100, 3), (5, .aload_n 0, 1), (6, .iconst 0, 1), (7, .putfield 103, 3), (10, .aload_n 0, 1), (11, .iconst 0, 1), (12, .putfield 106, 3), (15, .iconst 1, 1), (16, .istore_n 1, 1), (17, .aload_n 0, 1), (18, .invokevirtual 279, 3), (21, .istore_n 2, 1), (22, .iload_n 1, 1), (23, .ifCond .eq 82, 3), (26, .iload_n 2, 1), (27, .bipush 33, 2), (29, .if_icmp .eq 9, 3), (32, .iload_n 2, 1), (33, .bipush 40, 2), (35, .if_icmp .ne 56, 3), (38, .aload_n 0, 1), (39, .getfield 106, 3), (42, .iconst 5, 1), (43, .if_icmp .ne 5, 3), (46, .iconst 0, 1), (47, .ireturn, 1), (48, .aload_n 0, 1), (49, .dup, 1), (50, .getfield 106, 3), (53, .iconst 1, 1), (54, .iadd, 1), (55, .putfield 106, 3), (58, .aload_n 0, 1), (59, .getfield 93, 3), (62, .aload_n 0, 1), (63, .getfield 100, 3), (66, .iload_n 2, 1), (67, .iastore, 1), (68, .aload_n 0, 1), (69, .dup, 1), (70, .getfield 100, 3), (73, .iconst 1, 1), (74, .iadd, 1), (75, .putfield 100, 3), (78, .aload_n 0, 1), (79, .dup, 1), (80, .getfield 87, 3), (83, .iconst 1, 1), (84, .iadd, 1), (85, .putfield 87, 3), (88, .goto (-71), 3), (91, .aload_n 0, 1), (92, .invokevirtual 299, 3), (95, .ifCond .eq 8, 3), (98, .iconst 0, 1), (99, .istore_n 1, 1), (100, .goto (-83), 3), (103, .iconst 0, 1), (104, .ireturn, 1), (105, .iload_n 2, 1), (106, .bipush 38, 2), (108, .if_icmp .eq 9, 3), (111, .iload_n 2, 1), (112, .bipush 124, 2), (114, .if_icmp .ne 43, 3), (117, .aload_n 0, 1), (118, .iload_n 2, 1), (119, .invokevirtual 302, 3), (122, .aload_n 0, 1), (123, .getfield 93, 3), (126, .aload_n 0, 1), (127, .getfield 100, 3), (130, .iload_n 2, 1), (131, .iastore, 1), (132, .aload_n 0, 1), (133, .dup, 1), (134, .getfield 100, 3), (137, .iconst 1, 1), (138, .iadd, 1), (139, .putfield 100, 3), (142, .iconst 1, 1), (143, .istore_n 1, 1), (144, .aload_n 0, 1), (145, .dup, 1), (146, .getfield 87, 3), (149, .iconst 1, 1), (150, .iadd, 1), (151, .putfield 87, 3), (154, .goto (-137), 3), (157, .aload_n 0, 1), (158, .bipush 124, 2), (160, .invokevirtual 302, 3), (163, .aload_n 0, 1), (164, .getfield 100, 3), (167, .ifCond .ne 5, 3), (170, .iconst 1, 1), (171, .ireturn, 1), (172, .iload_n 2, 1), (173, .bipush 41, 2), (175, .if_icmp .eq 5, 3), (178, .iconst 0, 1), (179, .ireturn, 1), (180, .aload_n 0, 1), (181, .dup, 1), (182, .getfield 100, 3), (185, .iconst 1, 1), (186, .isub, 1), (187, .putfield 100, 3), (190, .aload_n 0, 1), (191, .dup, 1), (192, .getfield 106, 3), (195, .iconst 1, 1), (196, .isub, 1), (197, .putfield 106, 3), (200, .aload_n 0, 1), (201, .dup, 1), (202, .getfield 103, 3), (205, .iconst 1, 1), (206, .isub, 1), (207, .putfield 103, 3), (210, .aload_n 0, 1), (211, .dup, 1), (212, .getfield 87, 3), (215, .iconst 1, 1), (216, .iadd, 1), (217, .putfield 87, 3), (220, .aload_n 0, 1), (221, .aload_n 0, 1), (222, .getfield 96, 3), (225, .aload_n 0, 1), (226, .getfield 103, 3), (229, .baload, 1), (230, .invokevirtual 292, 3), (233, .goto (-216), 3)]
theorem k_Mo_takesE : sv_tk m_Mo_takesE.2.1 t_Mo_takesE := by decide +kernel
theorem g_Mo_takesE : sv_G m_Mo_takesE 0 := ⟨by decide +kernel, sv_in 1647 (by decide +kernel) rfl, sv_in 103 (by decide +kernel) rfl, ⟨by decide, by decide⟩, by decide +kernel, by decide⟩
theorem in_Mo_takesE : Cond.instanceMethod m_Mo_takesE.1 ∈ sv_T := sv_in 1646 (by decide +kernel) rfl
theorem se_Mo_takesE : Cond.selects m_Mo_takesE.1.cls m_Mo_takesE.1 m_Mo_takesE.1 ∈ sv_T := sv_in 52 (by decide +kernel) rfl
def F_Mo_takesE_b117 (kc17 : Int32 → sv_S → Option (Int32 × sv_S)) (x2 : Int32) (s : sv_S) : Option (Int32 × sv_S) :=
  (F_Mo_settle x2 s).bind fun r5 =>
  if sv_ib (r5.1 187 29) 141 = true then
    ss_let (ss_setI r5 203 (r5.1 187 29).toNatClampNeg x2) fun s6 =>
    ss_let (ss_setI s6 187 29 ((s6.1 187 29) + (1 : Int32))) fun s7 =>
    ss_let (ss_setI s7 187 25 ((s7.1 187 25) + (1 : Int32))) fun s8 =>
    kc17 (1 : Int32) s8
  else none
theorem V_Mo_takesE_b117 (E : sv_E) (d : Nat) (kc17 : Int32 → sv_S → Option (Int32 × sv_S)) (hc17 : ∀ (x1 : Int32) (s : sv_S), sv_V E m_Mo_takesE (d + 4) ss_i 17 [(0, sv_r E 187), (1, .int x1)] [] (ss_e s) (kc17 x1 s)) (x2 : Int32) (s : sv_S) : sv_V E m_Mo_takesE (d + 4) ss_i 117 [(0, sv_r E 187), (2, .int x2)] [] (ss_e s) (F_Mo_takesE_b117 kc17 x2 s) := by
  unfold F_Mo_takesE_b117
  refine sv_aload_n (pc := 117) 0 (sv_d k_Mo_takesE 67 rfl) rfl rfl ?_
  refine sv_iload_n (pc := 118) 1 (sv_d k_Mo_takesE 68 rfl) rfl rfl ?_
  refine sv_callV (pc := 119) (ψ := ss_v) (As := [.int x2]) (rest := []) (c := 187) (sv_d k_Mo_takesE 69 rfl) g_Mo_settle w1656 in_Mo_settle se_Mo_settle cf12 kd187 (ss_lt (by decide)) rfl (Nat.le_of_ble_eq_true rfl) (V_Mo_settle E (d + 3) x2 s) (Nat.le_of_ble_eq_true rfl) rfl (fun r5 => ?_)
  show sv_V E _ _ _ 122 _ [] (ss_e r5) _
  refine sv_aload_n (pc := 122) 0 (sv_d k_Mo_takesE 70 rfl) rfl rfl ?_
  refine sv_getf (pc := 123) 27 (sv_d k_Mo_takesE 71 rfl) cf12 (by decide) w1329 kd187 (ss_lt (by decide)) (lr_187_27 E _) ?_
  refine sv_aload_n (pc := 126) 0 (sv_d k_Mo_takesE 72 rfl) rfl rfl ?_
  refine sv_getf (pc := 127) 29 (sv_d k_Mo_takesE 73 rfl) cf12 (by decide) w1331 kd187 (ss_lt (by decide)) rfl ?_
  refine sv_iload_n (pc := 130) 1 (sv_d k_Mo_takesE 74 rfl) rfl rfl ?_
  refine ss_iast (pc := 131) (n := 141) (sv_d k_Mo_takesE 75 rfl) kd203 (by decide) (ss_lt (by decide)) rfl (ss_lets (fun s6 e_s6 => ?_))
  refine sv_aload_n (pc := 132) 0 (sv_d k_Mo_takesE 76 rfl) rfl rfl ?_
  refine sv_dup (pc := 133) (sv_d k_Mo_takesE 77 rfl) rfl ?_
  refine sv_getf (pc := 134) 29 (sv_d k_Mo_takesE 78 rfl) cf12 (by decide) w1331 kd187 (ss_lt (by decide)) rfl ?_
  refine sv_iconst (pc := 137) (v := (1 : Int32)) (sv_d k_Mo_takesE 79 rfl) (by decide) ?_
  refine sv_iadd (pc := 138) (sv_d k_Mo_takesE 80 rfl) ?_
  refine ss_putI (pc := 139) 29 (sv_d k_Mo_takesE 81 rfl) cf12 (by decide) rfl w1331 kd187 (ss_lt (by decide)) rfl rfl (fun _ => rfl) (ss_lets (fun s7 e_s7 => ?_))
  refine sv_iconst (pc := 142) (v := (1 : Int32)) (sv_d k_Mo_takesE 82 rfl) (by decide) ?_
  refine sv_istore_n (pc := 143) (lv' := [(1, .int (1 : Int32)), (0, sv_r E 187), (2, .int x2)]) (sv_d k_Mo_takesE 83 rfl) rfl (by decide) rfl ?_
  refine sv_aload_n (pc := 144) 1 (sv_d k_Mo_takesE 84 rfl) rfl rfl ?_
  refine sv_dup (pc := 145) (sv_d k_Mo_takesE 85 rfl) rfl ?_
  refine sv_getf (pc := 146) 25 (sv_d k_Mo_takesE 86 rfl) cf12 (by decide) w1327 kd187 (ss_lt (by decide)) rfl ?_
  refine sv_iconst (pc := 149) (v := (1 : Int32)) (sv_d k_Mo_takesE 87 rfl) (by decide) ?_
  refine sv_iadd (pc := 150) (sv_d k_Mo_takesE 88 rfl) ?_
  refine ss_putI (pc := 151) 25 (sv_d k_Mo_takesE 89 rfl) cf12 (by decide) rfl w1327 kd187 (ss_lt (by decide)) rfl rfl (fun _ => rfl) (ss_lets (fun s8 e_s8 => ?_))
  refine sv_goto (pc := 154) (tgt := 17) (sv_d k_Mo_takesE 90 rfl) (by decide) ?_
  exact sv_loc [1, 0] rfl (hc17 (1 : Int32) s8)
def F_Mo_takesE_b38 (kc17 : Int32 → sv_S → Option (Int32 × sv_S)) (x1 : Int32) (x2 : Int32) (s : sv_S) : Option (Int32 × sv_S) :=
  if (s.1 187 31) = (5 : Int32) then
    some ((0 : Int32), s)
  else
  ss_let (ss_setI s 187 31 ((s.1 187 31) + (1 : Int32))) fun s15 =>
  if sv_ib (s15.1 187 29) 141 = true then
    ss_let (ss_setI s15 203 (s15.1 187 29).toNatClampNeg x2) fun s16 =>
    ss_let (ss_setI s16 187 29 ((s16.1 187 29) + (1 : Int32))) fun s17 =>
    ss_let (ss_setI s17 187 25 ((s17.1 187 25) + (1 : Int32))) fun s18 =>
    kc17 x1 s18
  else none
theorem V_Mo_takesE_b38 (E : sv_E) (d : Nat) (kc17 : Int32 → sv_S → Option (Int32 × sv_S)) (hc17 : ∀ (x1 : Int32) (s : sv_S), sv_V E m_Mo_takesE (d + 4) ss_i 17 [(0, sv_r E 187), (1, .int x1)] [] (ss_e s) (kc17 x1 s)) (x1 : Int32) (x2 : Int32) (s : sv_S) : sv_V E m_Mo_takesE (d + 4) ss_i 38 [(0, sv_r E 187), (1, .int x1), (2, .int x2)] [] (ss_e s) (F_Mo_takesE_b38 kc17 x1 x2 s) := by
  unfold F_Mo_takesE_b38
  refine sv_aload_n (pc := 38) 0 (sv_d k_Mo_takesE 22 rfl) rfl rfl ?_
  refine sv_getf (pc := 39) 31 (sv_d k_Mo_takesE 23 rfl) cf12 (by decide) w1333 kd187 (ss_lt (by decide)) rfl ?_
  refine sv_iconst (pc := 42) (v := (5 : Int32)) (sv_d k_Mo_takesE 24 rfl) (by decide) ?_
  refine sv_icmp_ne (pc := 43) (tgt := 48) (sv_d k_Mo_takesE 25 rfl) (by decide) ?_ ?_
  · refine sv_aload_n (pc := 48) 0 (sv_d k_Mo_takesE 28 rfl) rfl rfl ?_
    refine sv_dup (pc := 49) (sv_d k_Mo_takesE 29 rfl) rfl ?_
    refine sv_getf (pc := 50) 31 (sv_d k_Mo_takesE 30 rfl) cf12 (by decide) w1333 kd187 (ss_lt (by decide)) rfl ?_
    refine sv_iconst (pc := 53) (v := (1 : Int32)) (sv_d k_Mo_takesE 31 rfl) (by decide) ?_
    refine sv_iadd (pc := 54) (sv_d k_Mo_takesE 32 rfl) ?_
    refine ss_putI (pc := 55) 31 (sv_d k_Mo_takesE 33 rfl) cf12 (by decide) rfl w1333 kd187 (ss_lt (by decide)) rfl rfl (fun _ => rfl) (ss_lets (fun s15 e_s15 => ?_))
    refine sv_aload_n (pc := 58) 0 (sv_d k_Mo_takesE 34 rfl) rfl rfl ?_
    refine sv_getf (pc := 59) 27 (sv_d k_Mo_takesE 35 rfl) cf12 (by decide) w1329 kd187 (ss_lt (by decide)) (lr_187_27 E _) ?_
    refine sv_aload_n (pc := 62) 0 (sv_d k_Mo_takesE 36 rfl) rfl rfl ?_
    refine sv_getf (pc := 63) 29 (sv_d k_Mo_takesE 37 rfl) cf12 (by decide) w1331 kd187 (ss_lt (by decide)) rfl ?_
    refine sv_iload_n (pc := 66) 2 (sv_d k_Mo_takesE 38 rfl) rfl rfl ?_
    refine ss_iast (pc := 67) (n := 141) (sv_d k_Mo_takesE 39 rfl) kd203 (by decide) (ss_lt (by decide)) rfl (ss_lets (fun s16 e_s16 => ?_))
    refine sv_aload_n (pc := 68) 0 (sv_d k_Mo_takesE 40 rfl) rfl rfl ?_
    refine sv_dup (pc := 69) (sv_d k_Mo_takesE 41 rfl) rfl ?_
    refine sv_getf (pc := 70) 29 (sv_d k_Mo_takesE 42 rfl) cf12 (by decide) w1331 kd187 (ss_lt (by decide)) rfl ?_
    refine sv_iconst (pc := 73) (v := (1 : Int32)) (sv_d k_Mo_takesE 43 rfl) (by decide) ?_
    refine sv_iadd (pc := 74) (sv_d k_Mo_takesE 44 rfl) ?_
    refine ss_putI (pc := 75) 29 (sv_d k_Mo_takesE 45 rfl) cf12 (by decide) rfl w1331 kd187 (ss_lt (by decide)) rfl rfl (fun _ => rfl) (ss_lets (fun s17 e_s17 => ?_))
    refine sv_aload_n (pc := 78) 0 (sv_d k_Mo_takesE 46 rfl) rfl rfl ?_
    refine sv_dup (pc := 79) (sv_d k_Mo_takesE 47 rfl) rfl ?_
    refine sv_getf (pc := 80) 25 (sv_d k_Mo_takesE 48 rfl) cf12 (by decide) w1327 kd187 (ss_lt (by decide)) rfl ?_
    refine sv_iconst (pc := 83) (v := (1 : Int32)) (sv_d k_Mo_takesE 49 rfl) (by decide) ?_
    refine sv_iadd (pc := 84) (sv_d k_Mo_takesE 50 rfl) ?_
    refine ss_putI (pc := 85) 25 (sv_d k_Mo_takesE 51 rfl) cf12 (by decide) rfl w1327 kd187 (ss_lt (by decide)) rfl rfl (fun _ => rfl) (ss_lets (fun s18 e_s18 => ?_))
    refine sv_goto (pc := 88) (tgt := 17) (sv_d k_Mo_takesE 52 rfl) (by decide) ?_
    exact sv_loc [0, 1] rfl (hc17 x1 s18)
  · refine sv_iconst (pc := 46) (v := (0 : Int32)) (sv_d k_Mo_takesE 26 rfl) (by decide) ?_
    exact sv_ret (pc := 47) (sv_d k_Mo_takesE 27 rfl) ⟨_, rfl, rfl⟩ rfl
def F_Mo_takesE_b17 : Nat → Int32 → sv_S → Option (Int32 × sv_S)
  | 0 => fun _ _ => none
  | n + 1 => fun x1 s =>
    (F_Mo_next s).bind fun r4 =>
    if x1 = 0 then
      if r4 = (38 : Int32) then
        F_Mo_takesE_b117 (F_Mo_takesE_b17  n) r4 s
      else
      if r4 = (124 : Int32) then
        F_Mo_takesE_b117 (F_Mo_takesE_b17  n) r4 s
      else
      (F_Mo_settle (124 : Int32) s).bind fun r9 =>
      if (r9.1 187 29) = 0 then
        some ((1 : Int32), r9)
      else
      if r4 = (41 : Int32) then
        ss_let (ss_setI r9 187 29 ((r9.1 187 29) - (1 : Int32))) fun s10 =>
        ss_let (ss_setI s10 187 31 ((s10.1 187 31) - (1 : Int32))) fun s11 =>
        ss_let (ss_setI s11 187 30 ((s11.1 187 30) - (1 : Int32))) fun s12 =>
        ss_let (ss_setI s12 187 25 ((s12.1 187 25) + (1 : Int32))) fun s13 =>
        if sv_ib (s13.1 187 30) 141 = true then
          (F_Mo_push (s13.1 204 (s13.1 187 30).toNatClampNeg) s13).bind fun r14 =>
          F_Mo_takesE_b17  n x1 r14
        else none
      else
      some ((0 : Int32), r9)
    else
    if r4 = (33 : Int32) then
      F_Mo_takesE_b38 (F_Mo_takesE_b17  n) x1 r4 s
    else
    if r4 = (40 : Int32) then
      F_Mo_takesE_b38 (F_Mo_takesE_b17  n) x1 r4 s
    else
    (F_Mo_takesTest s).bind fun r19 =>
    if r19.1 = 0 then
      some ((0 : Int32), r19.2)
    else
    F_Mo_takesE_b17  n (0 : Int32) r19.2
theorem V_Mo_takesE_b17 (E : sv_E) (d : Nat) : ∀ (n : Nat) (x1 : Int32) (s : sv_S), sv_V E m_Mo_takesE (d + 4) ss_i 17 [(0, sv_r E 187), (1, .int x1)] [] (ss_e s) (F_Mo_takesE_b17 n x1 s) := by
  intro n
  induction n with
  | zero => intro x1 s; exact sv_none
  | succ n ih =>
    intro x1 s
    unfold F_Mo_takesE_b17
    refine sv_aload_n (pc := 17) 0 (sv_d k_Mo_takesE 11 rfl) rfl rfl ?_
    refine sv_callV (pc := 18) (ψ := (ss_pi s)) (As := []) (rest := []) (c := 187) (sv_d k_Mo_takesE 12 rfl) g_Mo_next w1606 in_Mo_next se_Mo_next cf12 kd187 (ss_lt (by decide)) rfl (Nat.le_of_ble_eq_true rfl) (V_Mo_next E (d + 3) s) (Nat.le_of_ble_eq_true rfl) rfl (fun r4 => ?_)
    show sv_V E _ _ _ 21 _ [.int r4] (ss_e s) _
    refine sv_istore_n (pc := 21) (lv' := [(2, .int r4), (0, sv_r E 187), (1, .int x1)]) (sv_d k_Mo_takesE 13 rfl) rfl (by decide) rfl ?_
    refine sv_iload_n (pc := 22) 2 (sv_d k_Mo_takesE 14 rfl) rfl rfl ?_
    refine sv_if_eq (pc := 23) (tgt := 105) (sv_d k_Mo_takesE 15 rfl) (by decide) ?_ ?_
    · refine sv_iload_n (pc := 105) 0 (sv_d k_Mo_takesE 61 rfl) rfl rfl ?_
      refine sv_bipush (pc := 106) (v := (38 : Int32)) (sv_d k_Mo_takesE 62 rfl) (by decide) ?_
      refine sv_icmp_eq (pc := 108) (tgt := 117) (sv_d k_Mo_takesE 63 rfl) (by decide) ?_ ?_
      · exact sv_loc [1, 0] rfl (V_Mo_takesE_b117 E d (F_Mo_takesE_b17  n) ih r4 s)
      · refine sv_iload_n (pc := 111) 0 (sv_d k_Mo_takesE 64 rfl) rfl rfl ?_
        refine sv_bipush (pc := 112) (v := (124 : Int32)) (sv_d k_Mo_takesE 65 rfl) (by decide) ?_
        refine sv_icmp_ne (pc := 114) (tgt := 157) (sv_d k_Mo_takesE 66 rfl) (by decide) ?_ ?_
        · refine sv_aload_n (pc := 157) 1 (sv_d k_Mo_takesE 91 rfl) rfl rfl ?_
          refine sv_bipush (pc := 158) (v := (124 : Int32)) (sv_d k_Mo_takesE 92 rfl) (by decide) ?_
          refine sv_callV (pc := 160) (ψ := ss_v) (As := [.int (124 : Int32)]) (rest := []) (c := 187) (sv_d k_Mo_takesE 93 rfl) g_Mo_settle w1656 in_Mo_settle se_Mo_settle cf12 kd187 (ss_lt (by decide)) rfl (Nat.le_of_ble_eq_true rfl) (V_Mo_settle E (d + 3) (124 : Int32) s) (Nat.le_of_ble_eq_true rfl) rfl (fun r9 => ?_)
          show sv_V E _ _ _ 163 _ [] (ss_e r9) _
          refine sv_aload_n (pc := 163) 1 (sv_d k_Mo_takesE 94 rfl) rfl rfl ?_
          refine sv_getf (pc := 164) 29 (sv_d k_Mo_takesE 95 rfl) cf12 (by decide) w1331 kd187 (ss_lt (by decide)) rfl ?_
          refine sv_if_ne (pc := 167) (tgt := 172) (sv_d k_Mo_takesE 96 rfl) (by decide) ?_ ?_
          · refine sv_iload_n (pc := 172) 0 (sv_d k_Mo_takesE 99 rfl) rfl rfl ?_
            refine sv_bipush (pc := 173) (v := (41 : Int32)) (sv_d k_Mo_takesE 100 rfl) (by decide) ?_
            refine sv_icmp_eq (pc := 175) (tgt := 180) (sv_d k_Mo_takesE 101 rfl) (by decide) ?_ ?_
            · refine sv_aload_n (pc := 180) 1 (sv_d k_Mo_takesE 104 rfl) rfl rfl ?_
              refine sv_dup (pc := 181) (sv_d k_Mo_takesE 105 rfl) rfl ?_
              refine sv_getf (pc := 182) 29 (sv_d k_Mo_takesE 106 rfl) cf12 (by decide) w1331 kd187 (ss_lt (by decide)) rfl ?_
              refine sv_iconst (pc := 185) (v := (1 : Int32)) (sv_d k_Mo_takesE 107 rfl) (by decide) ?_
              refine sv_isub (pc := 186) (sv_d k_Mo_takesE 108 rfl) ?_
              refine ss_putI (pc := 187) 29 (sv_d k_Mo_takesE 109 rfl) cf12 (by decide) rfl w1331 kd187 (ss_lt (by decide)) rfl rfl (fun _ => rfl) (ss_lets (fun s10 e_s10 => ?_))
              refine sv_aload_n (pc := 190) 1 (sv_d k_Mo_takesE 110 rfl) rfl rfl ?_
              refine sv_dup (pc := 191) (sv_d k_Mo_takesE 111 rfl) rfl ?_
              refine sv_getf (pc := 192) 31 (sv_d k_Mo_takesE 112 rfl) cf12 (by decide) w1333 kd187 (ss_lt (by decide)) rfl ?_
              refine sv_iconst (pc := 195) (v := (1 : Int32)) (sv_d k_Mo_takesE 113 rfl) (by decide) ?_
              refine sv_isub (pc := 196) (sv_d k_Mo_takesE 114 rfl) ?_
              refine ss_putI (pc := 197) 31 (sv_d k_Mo_takesE 115 rfl) cf12 (by decide) rfl w1333 kd187 (ss_lt (by decide)) rfl rfl (fun _ => rfl) (ss_lets (fun s11 e_s11 => ?_))
              refine sv_aload_n (pc := 200) 1 (sv_d k_Mo_takesE 116 rfl) rfl rfl ?_
              refine sv_dup (pc := 201) (sv_d k_Mo_takesE 117 rfl) rfl ?_
              refine sv_getf (pc := 202) 30 (sv_d k_Mo_takesE 118 rfl) cf12 (by decide) w1332 kd187 (ss_lt (by decide)) rfl ?_
              refine sv_iconst (pc := 205) (v := (1 : Int32)) (sv_d k_Mo_takesE 119 rfl) (by decide) ?_
              refine sv_isub (pc := 206) (sv_d k_Mo_takesE 120 rfl) ?_
              refine ss_putI (pc := 207) 30 (sv_d k_Mo_takesE 121 rfl) cf12 (by decide) rfl w1332 kd187 (ss_lt (by decide)) rfl rfl (fun _ => rfl) (ss_lets (fun s12 e_s12 => ?_))
              refine sv_aload_n (pc := 210) 1 (sv_d k_Mo_takesE 122 rfl) rfl rfl ?_
              refine sv_dup (pc := 211) (sv_d k_Mo_takesE 123 rfl) rfl ?_
              refine sv_getf (pc := 212) 25 (sv_d k_Mo_takesE 124 rfl) cf12 (by decide) w1327 kd187 (ss_lt (by decide)) rfl ?_
              refine sv_iconst (pc := 215) (v := (1 : Int32)) (sv_d k_Mo_takesE 125 rfl) (by decide) ?_
              refine sv_iadd (pc := 216) (sv_d k_Mo_takesE 126 rfl) ?_
              refine ss_putI (pc := 217) 25 (sv_d k_Mo_takesE 127 rfl) cf12 (by decide) rfl w1327 kd187 (ss_lt (by decide)) rfl rfl (fun _ => rfl) (ss_lets (fun s13 e_s13 => ?_))
              refine sv_aload_n (pc := 220) 1 (sv_d k_Mo_takesE 128 rfl) rfl rfl ?_
              refine sv_aload_n (pc := 221) 1 (sv_d k_Mo_takesE 129 rfl) rfl rfl ?_
              refine sv_getf (pc := 222) 28 (sv_d k_Mo_takesE 130 rfl) cf12 (by decide) w1330 kd187 (ss_lt (by decide)) (lr_187_28 E _) ?_
              refine sv_aload_n (pc := 225) 1 (sv_d k_Mo_takesE 131 rfl) rfl rfl ?_
              refine sv_getf (pc := 226) 30 (sv_d k_Mo_takesE 132 rfl) cf12 (by decide) w1332 kd187 (ss_lt (by decide)) rfl ?_
              refine ss_zald (pc := 229) (n := 141) (sv_d k_Mo_takesE 133 rfl) kd204 (ss_lt (by decide)) rfl ?_
              refine sv_callV (pc := 230) (ψ := ss_v) (As := [.int (s13.1 204 (s13.1 187 30).toNatClampNeg)]) (rest := []) (c := 187) (sv_d k_Mo_takesE 134 rfl) g_Mo_push w1652 in_Mo_push se_Mo_push cf12 kd187 (ss_lt (by decide)) rfl (Nat.le_of_ble_eq_true rfl) (V_Mo_push E (d + 3) (s13.1 204 (s13.1 187 30).toNatClampNeg) s13) (Nat.le_of_ble_eq_true rfl) rfl (fun r14 => ?_)
              show sv_V E _ _ _ 233 _ [] (ss_e r14) _
              refine sv_goto (pc := 233) (tgt := 17) (sv_d k_Mo_takesE 135 rfl) (by decide) ?_
              exact sv_loc [1, 2] rfl (ih x1 r14)
            · refine sv_iconst (pc := 178) (v := (0 : Int32)) (sv_d k_Mo_takesE 102 rfl) (by decide) ?_
              exact sv_ret (pc := 179) (sv_d k_Mo_takesE 103 rfl) ⟨_, rfl, rfl⟩ rfl
          · refine sv_iconst (pc := 170) (v := (1 : Int32)) (sv_d k_Mo_takesE 97 rfl) (by decide) ?_
            exact sv_ret (pc := 171) (sv_d k_Mo_takesE 98 rfl) ⟨_, rfl, rfl⟩ rfl
        · exact sv_loc [1, 0] rfl (V_Mo_takesE_b117 E d (F_Mo_takesE_b17  n) ih r4 s)
    · refine sv_iload_n (pc := 26) 0 (sv_d k_Mo_takesE 16 rfl) rfl rfl ?_
      refine sv_bipush (pc := 27) (v := (33 : Int32)) (sv_d k_Mo_takesE 17 rfl) (by decide) ?_
      refine sv_icmp_eq (pc := 29) (tgt := 38) (sv_d k_Mo_takesE 18 rfl) (by decide) ?_ ?_
      · exact sv_loc [1, 2, 0] rfl (V_Mo_takesE_b38 E d (F_Mo_takesE_b17  n) ih x1 r4 s)
      · refine sv_iload_n (pc := 32) 0 (sv_d k_Mo_takesE 19 rfl) rfl rfl ?_
        refine sv_bipush (pc := 33) (v := (40 : Int32)) (sv_d k_Mo_takesE 20 rfl) (by decide) ?_
        refine sv_icmp_ne (pc := 35) (tgt := 91) (sv_d k_Mo_takesE 21 rfl) (by decide) ?_ ?_
        · refine sv_aload_n (pc := 91) 1 (sv_d k_Mo_takesE 53 rfl) rfl rfl ?_
          refine sv_callV (pc := 92) (ψ := ss_i) (As := []) (rest := []) (c := 187) (sv_d k_Mo_takesE 54 rfl) g_Mo_takesTest w1648 in_Mo_takesTest se_Mo_takesTest cf12 kd187 (ss_lt (by decide)) rfl (Nat.le_of_ble_eq_true rfl) (V_Mo_takesTest E (d + 0) s) (Nat.le_of_ble_eq_true rfl) rfl (fun r19 => ?_)
          show sv_V E _ _ _ 95 _ [.int r19.1] (ss_e r19.2) _
          refine sv_if_eq (pc := 95) (tgt := 103) (sv_d k_Mo_takesE 55 rfl) (by decide) ?_ ?_
          · refine sv_iconst (pc := 103) (v := (0 : Int32)) (sv_d k_Mo_takesE 59 rfl) (by decide) ?_
            exact sv_ret (pc := 104) (sv_d k_Mo_takesE 60 rfl) ⟨_, rfl, rfl⟩ rfl
          · refine sv_iconst (pc := 98) (v := (0 : Int32)) (sv_d k_Mo_takesE 56 rfl) (by decide) ?_
            refine sv_istore_n (pc := 99) (lv' := [(1, .int (0 : Int32)), (2, .int r4), (0, sv_r E 187)]) (sv_d k_Mo_takesE 57 rfl) rfl (by decide) rfl ?_
            refine sv_goto (pc := 100) (tgt := 17) (sv_d k_Mo_takesE 58 rfl) (by decide) ?_
            exact sv_loc [2, 0] rfl (ih (0 : Int32) r19.2)
        · exact sv_loc [1, 2, 0] rfl (V_Mo_takesE_b38 E d (F_Mo_takesE_b17  n) ih x1 r4 s)
def F_Mo_takesE (s : sv_S) : Option (Int32 × sv_S) :=
  ss_let (ss_setI s 187 29 (0 : Int32)) fun s1 =>
  ss_let (ss_setI s1 187 30 (0 : Int32)) fun s2 =>
  ss_let (ss_setI s2 187 31 (0 : Int32)) fun s3 =>
  F_Mo_takesE_b17 ss_F (1 : Int32) s3
theorem V_Mo_takesE (E : sv_E) (d : Nat) (s : sv_S) : sv_V E m_Mo_takesE (d + 4) ss_i 0 (lv_args 0 [sv_r E 187]) [] (ss_e s) (F_Mo_takesE s) := by
  show sv_V E m_Mo_takesE (d + 4) ss_i 0 [(0, sv_r E 187)] [] (ss_e s) _
  unfold F_Mo_takesE
  refine sv_aload_n (pc := 0) 0 (sv_d k_Mo_takesE 0 rfl) rfl rfl ?_
  refine sv_iconst (pc := 1) (v := (0 : Int32)) (sv_d k_Mo_takesE 1 rfl) (by decide) ?_
  refine ss_putI (pc := 2) 29 (sv_d k_Mo_takesE 2 rfl) cf12 (by decide) rfl w1331 kd187 (ss_lt (by decide)) rfl rfl (fun _ => rfl) (ss_lets (fun s1 e_s1 => ?_))
  refine sv_aload_n (pc := 5) 0 (sv_d k_Mo_takesE 3 rfl) rfl rfl ?_
  refine sv_iconst (pc := 6) (v := (0 : Int32)) (sv_d k_Mo_takesE 4 rfl) (by decide) ?_
  refine ss_putI (pc := 7) 30 (sv_d k_Mo_takesE 5 rfl) cf12 (by decide) rfl w1332 kd187 (ss_lt (by decide)) rfl rfl (fun _ => rfl) (ss_lets (fun s2 e_s2 => ?_))
  refine sv_aload_n (pc := 10) 0 (sv_d k_Mo_takesE 6 rfl) rfl rfl ?_
  refine sv_iconst (pc := 11) (v := (0 : Int32)) (sv_d k_Mo_takesE 7 rfl) (by decide) ?_
  refine ss_putI (pc := 12) 31 (sv_d k_Mo_takesE 8 rfl) cf12 (by decide) rfl w1333 kd187 (ss_lt (by decide)) rfl rfl (fun _ => rfl) (ss_lets (fun s3 e_s3 => ?_))
  refine sv_iconst (pc := 15) (v := (1 : Int32)) (sv_d k_Mo_takesE 9 rfl) (by decide) ?_
  refine sv_istore_n (pc := 16) (lv' := [(1, .int (1 : Int32)), (0, sv_r E 187)]) (sv_d k_Mo_takesE 10 rfl) rfl (by decide) rfl ?_
  exact sv_loc [1, 0] rfl (V_Mo_takesE_b17 E d ss_F (1 : Int32) s3)
/-! Mo_takesClause -/
abbrev m_Mo_takesClause : sv_M := (yX12_takesClause, cX12_takesClause, 3, (some .boolean))
def t_Mo_takesClause : List (Nat × Instr × Nat) := [(0, .aload_n 0, 1), (1, .invokevirtual 279, 3), (4, .istore_n 1, 1), (5, .aload_n 0, 1), (6, .getfield 87, 3), (9, .iconst 1, 1), (10, .iadd, 1), (11, .aload_n 0, 1), (12, .getfield 84, 3), (15, .if_icmp .ge 22, 3), (18, .aload_n 0, 1), (19, .getfield 53, 3), (22, .aload_n 0, 1), (23, .getfield 81, 3), (26, .aload_n 0, 1), (27, .getfield 87, 3), (30, .iadd, 1), (31, .iconst 1, 1), (32, .iadd, 1), (33, .iaload, 1), (34, .goto 4, 3), (37, .iconst (-1), 1), (38, .istore_n 2, 1), (39, .iload_n 1, 1), (40, .tableswitch (413) (98) (116) #[388, 413, 413, 197, 413, 92, 413, 413, 413, 413, 413, 147, 362, 413, 413, 413, 413, 265, 337], 92), (132, .iload_n 2, 1), (133, .bipush 97, 2), (135, .if_icmp .ne 28, 3), (138, .aload_n 0, 1), (139, .ldc2_w 305, 3), (142, .iconst 4, 1), (143, .invokevirtual 307, 3), (146, .ifCond .eq 15, 3), (149, .aload_n 0, 1), (150, .iconst 4, 1), (151, .invokevirtual 311, 3), (154, .ifCond .eq 7, 3), (157, .iconst 1, 1), (158, .goto 4, 3), (161, .iconst 0, 1), (162, .ireturn, 1), (163, .aload_n 0, 1), (164, .ldc2_w 314, 3), (167, .iconst 4, 1), (168, .invokevirtual 307, 3), (171, .ifCond .eq 14, 3), (174, .aload_n 0, 1), (175, .invokevirtual 316, 3), (178, .ifCond .eq 7, 3), (181, .iconst 1, 1), (182, .goto 4, 3), (185, .iconst 0, 1), (186, .ireturn, 1), (187, .iload_n 2, 1), (188, .bipush 105, 2), (190, .if_icmp .eq 27, 3), (193, .aload_n 0, 1), (194, .ldc2_w 319, 3), (197, .iconst 4, 1), (198, .invokevirtual 307, 3), (201, .ifCond .eq 14, 3), (204, .aload_n 0, 1), (205, .invokevirtual 321, 3), (208, .ifCond .eq 7, 3), (211, .iconst 1, 1), (212, .goto 4, 3), (215, .iconst 0, 1), (216, .ireturn, 1), (217, .aload_n 0, 1), (218, .ldc2_w 324, 3), (221, .iconst 5, 1), (222, .invokevirtual 307, 3), (225, .ifCond .ne 5, 3), (228, .iconst 0, 1), (229, .ireturn, 1), (230, .aload_n 0, 1), (231, .iconst 1, 1), (232, .putfield 68, 3), (235, .iconst 1, 1), (236, .ireturn, 1), (237, .iload_n 2, 1), (238, .bipush 120, 2), (240, .if_icmp .ne 45, 3), (243, .aload_n 0, 1), (244, .ldc2_w 326, 3), (247, .bipush 6, 2), (249, .invokevirtual 307, 3), (252, .ifCond .eq 19, 3), (255, .aload_n 0, 1), (256, .bipush 32, 2), (258, .invokevirtual 285, 3), (261, .ifCond .eq 10, 3), (264, .aload_n 0, 1), (265, .invokevirtual 328, 3), (268, .ifCond .ne 5, 3), (271, .iconst 0, 1), (272, .ireturn, 1), (273, .aload_n 0, 1), (274, .aload_n 0, 1), (275, .getfield 96, 3), (278, .iconst 0, 1), (279, .baload, 1), (280, .putfield 75, 3), (283, .iconst 1, 1), (284, .ireturn, 1), (285, .aload_n 0, 1), (286, .ldc2_w 331, 3), (289, .iconst 4, 1), (290, .invokevirtual 307, 3), (293, .ifCond .ne 5, 3), (296, .iconst 0, 1), (297, .ireturn, 1), (298, .aload_n 0, 1), (299, .iconst 0, 1), (300, .putfield 68, 3), (303, .iconst 1, 1), (304, .ireturn, 1), (305, .iload_n 2, 1), (306, .bipush 97, 2), (308, .if_icmp .ne 44, 3), (311, .aload_n 0, 1), (312, .ldc2_w 333, 3), (315, .iconst 4, 1), (316, .invokevirtual 307, 3), (319, .ifCond .eq 19, 3), (322, .aload_n 0, 1), (323, .bipush 32, 2), (325, .invokevirtual 285, 3), (328, .ifCond .eq 10, 3), (331, .aload_n 0, 1), (332, .invokevirtual 328, 3), (335, .ifCond .ne 5, 3), (338, .iconst 0, 1), (339, .ireturn, 1), (340, .aload_n 0, 1), (341, .aload_n 0, 1), (342, .getfield 96, 3), (345, .iconst 0, 1), (346, .baload, 1), (347, .putfield 72, 3), (350, .iconst 1, 1), (351, .ireturn, 1), (352, .aload_n 0, 1), (353, .ldc2_w 335, 3), (356, .iconst 5, 1), (357, .invokevirtual 307, 3), (360, .ifCond .eq 15, 3), (363, .aload_n 0, 1), (364, .iconst 1, 1), (365, .invokevirtual 311, 3), (368, .ifCond .eq 7, 3), (371, .iconst 1, 1), (372, .goto 4, 3), (375, .iconst 0, 1), (376, .ireturn, 1), (377, .aload_n 0, 1), (378, .ldc2_w 337, 3), (381, .iconst 4, 1), (382, .invokevirtual 307, 3), (385, .ifCond .eq 15, 3), (388, .aload_n 0, 1), (389, .iconst 0, 1), (390, .invokevirtual 311, 3), (393, .ifCond .eq 7, 3), (396, .iconst 1, 1), (397, .goto 4, 3), (400, .iconst 0, 1), (401, .ireturn, 1), (402, .aload_n 0, 1), (403, .ldc2_w 339, 3), (406, .bipush 6, 2), (408, .invokevirtual 307, 3), (411, .ifCond .eq 15, 3), (414, .aload_n 0, 1), (415, .iconst 2, 1), (416, .invokevirtual 311, 3), (419, .ifCond .eq 7, 3), (422, .iconst 1, 1), (423, .goto 4, 3), (426, .iconst 0, 1), (427, .ireturn, 1), (428, .aload_n 0, 1), (429, .ldc2_w 341, 3), (432, .iconst 4, 1), (433, .invokevirtual 307, 3), (436, .ifCond .eq 15, 3), (439, .aload_n 0, 1), (440, .iconst 3, 1), (441, .invokevirtual 311, 3), (444, .ifCond .eq 7, 3), (447, .iconst 1, 1), (448, .goto 4, 3), (451, .iconst 0, 1), (452, .ireturn, 1), (453, .iconst 0, 1), (454, .ireturn, 1)]
theorem k_Mo_takesClause : sv_tk m_Mo_takesClause.2.1 t_Mo_takesClause := by decide +kernel
theorem g_Mo_takesClause : sv_G m_Mo_takesClause 0 := ⟨by decide +kernel, sv_in 1605 (by decide +kernel) rfl, sv_in 103 (by decide +kernel) rfl, ⟨by decide, by decide⟩, by decide +kernel, by decide⟩
theorem in_Mo_takesClause : Cond.instanceMethod m_Mo_takesClause.1 ∈ sv_T := sv_in 1604 (by decide +kernel) rfl
theorem se_Mo_takesClause : Cond.selects m_Mo_takesClause.1.cls m_Mo_takesClause.1 m_Mo_takesClause.1 ∈ sv_T := sv_in 43 (by decide +kernel) rfl
def F_Mo_takesClause_b38 (x1 : Int32) (t0 : Int32) (s : sv_S) : Option (Int32 × sv_S) :=
  if x1 = (98 : Int32) then
    (F_Mo_takesWord (66667 : Int64) (4 : Int32) s).bind fun r2 =>
    if r2.1 = 0 then
      some ((0 : Int32), r2.2)
    else
    (F_Mo_takesPlain (3 : Int32) r2.2).bind fun r3 =>
    if r3.1 = 0 then
      some ((0 : Int32), r3.2)
    else
    some ((1 : Int32), r3.2)
  else if x1 = (101 : Int32) then
    if t0 = (120 : Int32) then
      (F_Mo_takesWord (193058405 : Int64) (6 : Int32) s).bind fun r7 =>
      if r7.1 = 0 then
        some ((0 : Int32), r7.2)
      else
      (F_Mo_takes (32 : Int32) r7.2).bind fun r8 =>
      if r8.1 = 0 then
        some ((0 : Int32), r8.2)
      else
      (F_Mo_takesE r8.2).bind fun r9 =>
      if r9.1 = 0 then
        some ((0 : Int32), r9.2)
      else
      if sv_ib (0 : Int32) 141 = true then
        if sv_bl (r9.2.1 204 (0 : Int32).toNatClampNeg) = true then
          ss_let (ss_setI r9.2 187 21 (r9.2.1 204 (0 : Int32).toNatClampNeg)) fun s10 =>
          some ((1 : Int32), s10)
        else none
      else none
    else
    (F_Mo_takesWord (186542 : Int64) (4 : Int32) s).bind fun r5 =>
    if r5.1 = 0 then
      some ((0 : Int32), r5.2)
    else
    ss_let (ss_setI r5.2 187 19 (0 : Int32)) fun s6 =>
    some ((1 : Int32), s6)
  else if x1 = (103 : Int32) then
    if t0 = (97 : Int32) then
      (F_Mo_takesWord (230702 : Int64) (4 : Int32) s).bind fun r15 =>
      if r15.1 = 0 then
        some ((0 : Int32), r15.2)
      else
      (F_Mo_takesPlain (4 : Int32) r15.2).bind fun r16 =>
      if r16.1 = 0 then
        some ((0 : Int32), r16.2)
      else
      some ((1 : Int32), r16.2)
    else
    (F_Mo_takesWord (245220 : Int64) (4 : Int32) s).bind fun r13 =>
    if r13.1 = 0 then
      some ((0 : Int32), r13.2)
    else
    (F_Mo_takesGood r13.2).bind fun r14 =>
    if r14.1 = 0 then
      some ((0 : Int32), r14.2)
    else
    some ((1 : Int32), r14.2)
  else if x1 = (109 : Int32) then
    if t0 = (105 : Int32) then
      (F_Mo_takesWord (13938867 : Int64) (5 : Int32) s).bind fun r18 =>
      if r18.1 = 0 then
        some ((0 : Int32), r18.2)
      else
      ss_let (ss_setI r18.2 187 19 (1 : Int32)) fun s19 =>
      some ((1 : Int32), s19)
    else
    (F_Mo_takesWord (441972 : Int64) (4 : Int32) s).bind fun r20 =>
    if r20.1 = 0 then
      some ((0 : Int32), r20.2)
    else
    (F_Mo_takesMost r20.2).bind fun r21 =>
    if r21.1 = 0 then
      some ((0 : Int32), r21.2)
    else
    some ((1 : Int32), r21.2)
  else if x1 = (110 : Int32) then
    (F_Mo_takesWord (486155365 : Int64) (6 : Int32) s).bind fun r23 =>
    if r23.1 = 0 then
      some ((0 : Int32), r23.2)
    else
    (F_Mo_takesPlain (2 : Int32) r23.2).bind fun r24 =>
    if r24.1 = 0 then
      some ((0 : Int32), r24.2)
    else
    some ((1 : Int32), r24.2)
  else if x1 = (115 : Int32) then
    if t0 = (97 : Int32) then
      (F_Mo_takesWord (624037 : Int64) (4 : Int32) s).bind fun r28 =>
      if r28.1 = 0 then
        some ((0 : Int32), r28.2)
      else
      (F_Mo_takes (32 : Int32) r28.2).bind fun r29 =>
      if r29.1 = 0 then
        some ((0 : Int32), r29.2)
      else
      (F_Mo_takesE r29.2).bind fun r30 =>
      if r30.1 = 0 then
        some ((0 : Int32), r30.2)
      else
      if sv_ib (0 : Int32) 141 = true then
        if sv_bl (r30.2.1 204 (0 : Int32).toNatClampNeg) = true then
          ss_let (ss_setI r30.2 187 20 (r30.2.1 204 (0 : Int32).toNatClampNeg)) fun s31 =>
          some ((1 : Int32), s31)
        else none
      else none
    else
    (F_Mo_takesWord (20350348 : Int64) (5 : Int32) s).bind fun r26 =>
    if r26.1 = 0 then
      some ((0 : Int32), r26.2)
    else
    (F_Mo_takesPlain (1 : Int32) r26.2).bind fun r27 =>
    if r27.1 = 0 then
      some ((0 : Int32), r27.2)
    else
    some ((1 : Int32), r27.2)
  else if x1 = (116 : Int32) then
    (F_Mo_takesWord (661069 : Int64) (4 : Int32) s).bind fun r34 =>
    if r34.1 = 0 then
      some ((0 : Int32), r34.2)
    else
    (F_Mo_takesPlain (0 : Int32) r34.2).bind fun r35 =>
    if r35.1 = 0 then
      some ((0 : Int32), r35.2)
    else
    some ((1 : Int32), r35.2)
  else 
  some ((0 : Int32), s)
theorem V_Mo_takesClause_b38 (E : sv_E) (d : Nat) (x1 : Int32) (t0 : Int32) (s : sv_S) : sv_V E m_Mo_takesClause (d + 5) ss_i 38 [(0, sv_r E 187), (1, .int x1)] [.int t0] (ss_e s) (F_Mo_takesClause_b38 x1 t0 s) := by
  unfold F_Mo_takesClause_b38
  refine sv_istore_n (pc := 38) (lv' := [(2, .int t0), (0, sv_r E 187), (1, .int x1)]) (sv_d k_Mo_takesClause 22 rfl) rfl (by decide) rfl ?_
  refine sv_iload_n (pc := 39) 2 (sv_d k_Mo_takesClause 23 rfl) rfl rfl ?_
  refine ss_dec (fun hh4 => ?_) (fun hh4 => ?_)
  · refine sv_tab (pc := 40) (tgt := 428) (sv_d k_Mo_takesClause 24 rfl) (98 : Int32) hh4 (by decide) (by decide) rfl (by decide) ?_
    refine sv_aload_n (pc := 428) 1 (sv_d k_Mo_takesClause 181 rfl) rfl rfl ?_
    refine sv_ldc2 (pc := 429) (v := (66667 : Int64)) w1665 (sv_d k_Mo_takesClause 182 rfl) ?_
    refine sv_iconst (pc := 432) (v := (4 : Int32)) (sv_d k_Mo_takesClause 183 rfl) (by decide) ?_
    refine sv_callV (pc := 433) (ψ := ss_i) (As := [.long (66667 : Int64), .int (4 : Int32)]) (rest := []) (c := 187) (sv_d k_Mo_takesClause 184 rfl) g_Mo_takesWord w1611 in_Mo_takesWord se_Mo_takesWord cf12 kd187 (ss_lt (by decide)) rfl (Nat.le_of_ble_eq_true rfl) (V_Mo_takesWord E (d + 2) (66667 : Int64) (4 : Int32) s) (Nat.le_of_ble_eq_true rfl) rfl (fun r2 => ?_)
    show sv_V E _ _ _ 436 _ [.int r2.1] (ss_e r2.2) _
    refine sv_if_eq (pc := 436) (tgt := 451) (sv_d k_Mo_takesClause 185 rfl) (by decide) ?_ ?_
    · refine sv_iconst (pc := 451) (v := (0 : Int32)) (sv_d k_Mo_takesClause 192 rfl) (by decide) ?_
      exact sv_ret (pc := 452) (sv_d k_Mo_takesClause 193 rfl) ⟨_, rfl, rfl⟩ rfl
    · refine sv_aload_n (pc := 439) 1 (sv_d k_Mo_takesClause 186 rfl) rfl rfl ?_
      refine sv_iconst (pc := 440) (v := (3 : Int32)) (sv_d k_Mo_takesClause 187 rfl) (by decide) ?_
      refine sv_callV (pc := 441) (ψ := ss_i) (As := [.int (3 : Int32)]) (rest := []) (c := 187) (sv_d k_Mo_takesClause 188 rfl) g_Mo_takesPlain w1620 in_Mo_takesPlain se_Mo_takesPlain cf12 kd187 (ss_lt (by decide)) rfl (Nat.le_of_ble_eq_true rfl) (V_Mo_takesPlain E (d + 1) (3 : Int32) r2.2) (Nat.le_of_ble_eq_true rfl) rfl (fun r3 => ?_)
      show sv_V E _ _ _ 444 _ [.int r3.1] (ss_e r3.2) _
      refine sv_if_eq (pc := 444) (tgt := 451) (sv_d k_Mo_takesClause 189 rfl) (by decide) ?_ ?_
      · refine sv_iconst (pc := 451) (v := (0 : Int32)) (sv_d k_Mo_takesClause 192 rfl) (by decide) ?_
        exact sv_ret (pc := 452) (sv_d k_Mo_takesClause 193 rfl) ⟨_, rfl, rfl⟩ rfl
      · refine sv_iconst (pc := 447) (v := (1 : Int32)) (sv_d k_Mo_takesClause 190 rfl) (by decide) ?_
        refine sv_goto (pc := 448) (tgt := 452) (sv_d k_Mo_takesClause 191 rfl) (by decide) ?_
        exact sv_ret (pc := 452) (sv_d k_Mo_takesClause 193 rfl) ⟨_, rfl, rfl⟩ rfl
  · refine ss_dec (fun hh12 => ?_) (fun hh12 => ?_)
    · refine sv_tab (pc := 40) (tgt := 237) (sv_d k_Mo_takesClause 24 rfl) (101 : Int32) hh12 (by decide) (by decide) rfl (by decide) ?_
      refine sv_iload_n (pc := 237) 0 (sv_d k_Mo_takesClause 80 rfl) rfl rfl ?_
      refine sv_bipush (pc := 238) (v := (120 : Int32)) (sv_d k_Mo_takesClause 81 rfl) (by decide) ?_
      refine sv_icmp_ne (pc := 240) (tgt := 285) (sv_d k_Mo_takesClause 82 rfl) (by decide) ?_ ?_
      · refine sv_aload_n (pc := 285) 1 (sv_d k_Mo_takesClause 105 rfl) rfl rfl ?_
        refine sv_ldc2 (pc := 286) (v := (186542 : Int64)) w1660 (sv_d k_Mo_takesClause 106 rfl) ?_
        refine sv_iconst (pc := 289) (v := (4 : Int32)) (sv_d k_Mo_takesClause 107 rfl) (by decide) ?_
        refine sv_callV (pc := 290) (ψ := ss_i) (As := [.long (186542 : Int64), .int (4 : Int32)]) (rest := []) (c := 187) (sv_d k_Mo_takesClause 108 rfl) g_Mo_takesWord w1611 in_Mo_takesWord se_Mo_takesWord cf12 kd187 (ss_lt (by decide)) rfl (Nat.le_of_ble_eq_true rfl) (V_Mo_takesWord E (d + 2) (186542 : Int64) (4 : Int32) s) (Nat.le_of_ble_eq_true rfl) rfl (fun r5 => ?_)
        show sv_V E _ _ _ 293 _ [.int r5.1] (ss_e r5.2) _
        refine sv_if_ne (pc := 293) (tgt := 298) (sv_d k_Mo_takesClause 109 rfl) (by decide) ?_ ?_
        · refine sv_aload_n (pc := 298) 1 (sv_d k_Mo_takesClause 112 rfl) rfl rfl ?_
          refine sv_iconst (pc := 299) (v := (0 : Int32)) (sv_d k_Mo_takesClause 113 rfl) (by decide) ?_
          refine ss_putI (pc := 300) 19 (sv_d k_Mo_takesClause 114 rfl) cf12 (by decide) rfl w1321 kd187 (ss_lt (by decide)) rfl rfl (fun _ => rfl) (ss_lets (fun s6 e_s6 => ?_))
          refine sv_iconst (pc := 303) (v := (1 : Int32)) (sv_d k_Mo_takesClause 115 rfl) (by decide) ?_
          exact sv_ret (pc := 304) (sv_d k_Mo_takesClause 116 rfl) ⟨_, rfl, rfl⟩ rfl
        · refine sv_iconst (pc := 296) (v := (0 : Int32)) (sv_d k_Mo_takesClause 110 rfl) (by decide) ?_
          exact sv_ret (pc := 297) (sv_d k_Mo_takesClause 111 rfl) ⟨_, rfl, rfl⟩ rfl
      · refine sv_aload_n (pc := 243) 1 (sv_d k_Mo_takesClause 83 rfl) rfl rfl ?_
        refine sv_ldc2 (pc := 244) (v := (193058405 : Int64)) w1643 (sv_d k_Mo_takesClause 84 rfl) ?_
        refine sv_bipush (pc := 247) (v := (6 : Int32)) (sv_d k_Mo_takesClause 85 rfl) (by decide) ?_
        refine sv_callV (pc := 249) (ψ := ss_i) (As := [.long (193058405 : Int64), .int (6 : Int32)]) (rest := []) (c := 187) (sv_d k_Mo_takesClause 86 rfl) g_Mo_takesWord w1611 in_Mo_takesWord se_Mo_takesWord cf12 kd187 (ss_lt (by decide)) rfl (Nat.le_of_ble_eq_true rfl) (V_Mo_takesWord E (d + 2) (193058405 : Int64) (6 : Int32) s) (Nat.le_of_ble_eq_true rfl) rfl (fun r7 => ?_)
        show sv_V E _ _ _ 252 _ [.int r7.1] (ss_e r7.2) _
        refine sv_if_eq (pc := 252) (tgt := 271) (sv_d k_Mo_takesClause 87 rfl) (by decide) ?_ ?_
        · refine sv_iconst (pc := 271) (v := (0 : Int32)) (sv_d k_Mo_takesClause 95 rfl) (by decide) ?_
          exact sv_ret (pc := 272) (sv_d k_Mo_takesClause 96 rfl) ⟨_, rfl, rfl⟩ rfl
        · refine sv_aload_n (pc := 255) 1 (sv_d k_Mo_takesClause 88 rfl) rfl rfl ?_
          refine sv_bipush (pc := 256) (v := (32 : Int32)) (sv_d k_Mo_takesClause 89 rfl) (by decide) ?_
          refine sv_callV (pc := 258) (ψ := ss_i) (As := [.int (32 : Int32)]) (rest := []) (c := 187) (sv_d k_Mo_takesClause 90 rfl) g_Mo_takes w1616 in_Mo_takes se_Mo_takes cf12 kd187 (ss_lt (by decide)) rfl (Nat.le_of_ble_eq_true rfl) (V_Mo_takes E (d + 3) (32 : Int32) r7.2) (Nat.le_of_ble_eq_true rfl) rfl (fun r8 => ?_)
          show sv_V E _ _ _ 261 _ [.int r8.1] (ss_e r8.2) _
          refine sv_if_eq (pc := 261) (tgt := 271) (sv_d k_Mo_takesClause 91 rfl) (by decide) ?_ ?_
          · refine sv_iconst (pc := 271) (v := (0 : Int32)) (sv_d k_Mo_takesClause 95 rfl) (by decide) ?_
            exact sv_ret (pc := 272) (sv_d k_Mo_takesClause 96 rfl) ⟨_, rfl, rfl⟩ rfl
          · refine sv_aload_n (pc := 264) 1 (sv_d k_Mo_takesClause 92 rfl) rfl rfl ?_
            refine sv_callV (pc := 265) (ψ := ss_i) (As := []) (rest := []) (c := 187) (sv_d k_Mo_takesClause 93 rfl) g_Mo_takesE w1644 in_Mo_takesE se_Mo_takesE cf12 kd187 (ss_lt (by decide)) rfl (Nat.le_of_ble_eq_true rfl) (V_Mo_takesE E (d + 0) r8.2) (Nat.le_of_ble_eq_true rfl) rfl (fun r9 => ?_)
            show sv_V E _ _ _ 268 _ [.int r9.1] (ss_e r9.2) _
            refine sv_if_ne (pc := 268) (tgt := 273) (sv_d k_Mo_takesClause 94 rfl) (by decide) ?_ ?_
            · refine sv_aload_n (pc := 273) 1 (sv_d k_Mo_takesClause 97 rfl) rfl rfl ?_
              refine sv_aload_n (pc := 274) 1 (sv_d k_Mo_takesClause 98 rfl) rfl rfl ?_
              refine sv_getf (pc := 275) 28 (sv_d k_Mo_takesClause 99 rfl) cf12 (by decide) w1330 kd187 (ss_lt (by decide)) (lr_187_28 E _) ?_
              refine sv_iconst (pc := 278) (v := (0 : Int32)) (sv_d k_Mo_takesClause 100 rfl) (by decide) ?_
              refine ss_zald (pc := 279) (n := 141) (sv_d k_Mo_takesClause 101 rfl) kd204 (ss_lt (by decide)) rfl ?_
              refine ss_grd (fun bb11 => ?_)
              refine ss_putI (pc := 280) 21 (sv_d k_Mo_takesClause 102 rfl) cf12 (by decide) rfl w1323 kd187 (ss_lt (by decide)) (sv_bln bb11) (sv_blf bb11) (fun _ => rfl) (ss_lets (fun s10 e_s10 => ?_))
              refine sv_iconst (pc := 283) (v := (1 : Int32)) (sv_d k_Mo_takesClause 103 rfl) (by decide) ?_
              exact sv_ret (pc := 284) (sv_d k_Mo_takesClause 104 rfl) ⟨_, rfl, rfl⟩ rfl
            · refine sv_iconst (pc := 271) (v := (0 : Int32)) (sv_d k_Mo_takesClause 95 rfl) (by decide) ?_
              exact sv_ret (pc := 272) (sv_d k_Mo_takesClause 96 rfl) ⟨_, rfl, rfl⟩ rfl
    · refine ss_dec (fun hh17 => ?_) (fun hh17 => ?_)
      · refine sv_tab (pc := 40) (tgt := 132) (sv_d k_Mo_takesClause 24 rfl) (103 : Int32) hh17 (by decide) (by decide) rfl (by decide) ?_
        refine sv_iload_n (pc := 132) 0 (sv_d k_Mo_takesClause 25 rfl) rfl rfl ?_
        refine sv_bipush (pc := 133) (v := (97 : Int32)) (sv_d k_Mo_takesClause 26 rfl) (by decide) ?_
        refine sv_icmp_ne (pc := 135) (tgt := 163) (sv_d k_Mo_takesClause 27 rfl) (by decide) ?_ ?_
        · refine sv_aload_n (pc := 163) 1 (sv_d k_Mo_takesClause 41 rfl) rfl rfl ?_
          refine sv_ldc2 (pc := 164) (v := (245220 : Int64)) w1632 (sv_d k_Mo_takesClause 42 rfl) ?_
          refine sv_iconst (pc := 167) (v := (4 : Int32)) (sv_d k_Mo_takesClause 43 rfl) (by decide) ?_
          refine sv_callV (pc := 168) (ψ := ss_i) (As := [.long (245220 : Int64), .int (4 : Int32)]) (rest := []) (c := 187) (sv_d k_Mo_takesClause 44 rfl) g_Mo_takesWord w1611 in_Mo_takesWord se_Mo_takesWord cf12 kd187 (ss_lt (by decide)) rfl (Nat.le_of_ble_eq_true rfl) (V_Mo_takesWord E (d + 2) (245220 : Int64) (4 : Int32) s) (Nat.le_of_ble_eq_true rfl) rfl (fun r13 => ?_)
          show sv_V E _ _ _ 171 _ [.int r13.1] (ss_e r13.2) _
          refine sv_if_eq (pc := 171) (tgt := 185) (sv_d k_Mo_takesClause 45 rfl) (by decide) ?_ ?_
          · refine sv_iconst (pc := 185) (v := (0 : Int32)) (sv_d k_Mo_takesClause 51 rfl) (by decide) ?_
            exact sv_ret (pc := 186) (sv_d k_Mo_takesClause 52 rfl) ⟨_, rfl, rfl⟩ rfl
          · refine sv_aload_n (pc := 174) 1 (sv_d k_Mo_takesClause 46 rfl) rfl rfl ?_
            refine sv_callV (pc := 175) (ψ := ss_i) (As := []) (rest := []) (c := 187) (sv_d k_Mo_takesClause 47 rfl) g_Mo_takesGood w1633 in_Mo_takesGood se_Mo_takesGood cf12 kd187 (ss_lt (by decide)) rfl (Nat.le_of_ble_eq_true rfl) (V_Mo_takesGood E (d + 2) r13.2) (Nat.le_of_ble_eq_true rfl) rfl (fun r14 => ?_)
            show sv_V E _ _ _ 178 _ [.int r14.1] (ss_e r14.2) _
            refine sv_if_eq (pc := 178) (tgt := 185) (sv_d k_Mo_takesClause 48 rfl) (by decide) ?_ ?_
            · refine sv_iconst (pc := 185) (v := (0 : Int32)) (sv_d k_Mo_takesClause 51 rfl) (by decide) ?_
              exact sv_ret (pc := 186) (sv_d k_Mo_takesClause 52 rfl) ⟨_, rfl, rfl⟩ rfl
            · refine sv_iconst (pc := 181) (v := (1 : Int32)) (sv_d k_Mo_takesClause 49 rfl) (by decide) ?_
              refine sv_goto (pc := 182) (tgt := 186) (sv_d k_Mo_takesClause 50 rfl) (by decide) ?_
              exact sv_ret (pc := 186) (sv_d k_Mo_takesClause 52 rfl) ⟨_, rfl, rfl⟩ rfl
        · refine sv_aload_n (pc := 138) 1 (sv_d k_Mo_takesClause 28 rfl) rfl rfl ?_
          refine sv_ldc2 (pc := 139) (v := (230702 : Int64)) w1610 (sv_d k_Mo_takesClause 29 rfl) ?_
          refine sv_iconst (pc := 142) (v := (4 : Int32)) (sv_d k_Mo_takesClause 30 rfl) (by decide) ?_
          refine sv_callV (pc := 143) (ψ := ss_i) (As := [.long (230702 : Int64), .int (4 : Int32)]) (rest := []) (c := 187) (sv_d k_Mo_takesClause 31 rfl) g_Mo_takesWord w1611 in_Mo_takesWord se_Mo_takesWord cf12 kd187 (ss_lt (by decide)) rfl (Nat.le_of_ble_eq_true rfl) (V_Mo_takesWord E (d + 2) (230702 : Int64) (4 : Int32) s) (Nat.le_of_ble_eq_true rfl) rfl (fun r15 => ?_)
          show sv_V E _ _ _ 146 _ [.int r15.1] (ss_e r15.2) _
          refine sv_if_eq (pc := 146) (tgt := 161) (sv_d k_Mo_takesClause 32 rfl) (by decide) ?_ ?_
          · refine sv_iconst (pc := 161) (v := (0 : Int32)) (sv_d k_Mo_takesClause 39 rfl) (by decide) ?_
            exact sv_ret (pc := 162) (sv_d k_Mo_takesClause 40 rfl) ⟨_, rfl, rfl⟩ rfl
          · refine sv_aload_n (pc := 149) 1 (sv_d k_Mo_takesClause 33 rfl) rfl rfl ?_
            refine sv_iconst (pc := 150) (v := (4 : Int32)) (sv_d k_Mo_takesClause 34 rfl) (by decide) ?_
            refine sv_callV (pc := 151) (ψ := ss_i) (As := [.int (4 : Int32)]) (rest := []) (c := 187) (sv_d k_Mo_takesClause 35 rfl) g_Mo_takesPlain w1620 in_Mo_takesPlain se_Mo_takesPlain cf12 kd187 (ss_lt (by decide)) rfl (Nat.le_of_ble_eq_true rfl) (V_Mo_takesPlain E (d + 1) (4 : Int32) r15.2) (Nat.le_of_ble_eq_true rfl) rfl (fun r16 => ?_)
            show sv_V E _ _ _ 154 _ [.int r16.1] (ss_e r16.2) _
            refine sv_if_eq (pc := 154) (tgt := 161) (sv_d k_Mo_takesClause 36 rfl) (by decide) ?_ ?_
            · refine sv_iconst (pc := 161) (v := (0 : Int32)) (sv_d k_Mo_takesClause 39 rfl) (by decide) ?_
              exact sv_ret (pc := 162) (sv_d k_Mo_takesClause 40 rfl) ⟨_, rfl, rfl⟩ rfl
            · refine sv_iconst (pc := 157) (v := (1 : Int32)) (sv_d k_Mo_takesClause 37 rfl) (by decide) ?_
              refine sv_goto (pc := 158) (tgt := 162) (sv_d k_Mo_takesClause 38 rfl) (by decide) ?_
              exact sv_ret (pc := 162) (sv_d k_Mo_takesClause 40 rfl) ⟨_, rfl, rfl⟩ rfl
      · refine ss_dec (fun hh22 => ?_) (fun hh22 => ?_)
        · refine sv_tab (pc := 40) (tgt := 187) (sv_d k_Mo_takesClause 24 rfl) (109 : Int32) hh22 (by decide) (by decide) rfl (by decide) ?_
          refine sv_iload_n (pc := 187) 0 (sv_d k_Mo_takesClause 53 rfl) rfl rfl ?_
          refine sv_bipush (pc := 188) (v := (105 : Int32)) (sv_d k_Mo_takesClause 54 rfl) (by decide) ?_
          refine sv_icmp_eq (pc := 190) (tgt := 217) (sv_d k_Mo_takesClause 55 rfl) (by decide) ?_ ?_
          · refine sv_aload_n (pc := 217) 1 (sv_d k_Mo_takesClause 68 rfl) rfl rfl ?_
            refine sv_ldc2 (pc := 218) (v := (13938867 : Int64)) w1642 (sv_d k_Mo_takesClause 69 rfl) ?_
            refine sv_iconst (pc := 221) (v := (5 : Int32)) (sv_d k_Mo_takesClause 70 rfl) (by decide) ?_
            refine sv_callV (pc := 222) (ψ := ss_i) (As := [.long (13938867 : Int64), .int (5 : Int32)]) (rest := []) (c := 187) (sv_d k_Mo_takesClause 71 rfl) g_Mo_takesWord w1611 in_Mo_takesWord se_Mo_takesWord cf12 kd187 (ss_lt (by decide)) rfl (Nat.le_of_ble_eq_true rfl) (V_Mo_takesWord E (d + 2) (13938867 : Int64) (5 : Int32) s) (Nat.le_of_ble_eq_true rfl) rfl (fun r18 => ?_)
            show sv_V E _ _ _ 225 _ [.int r18.1] (ss_e r18.2) _
            refine sv_if_ne (pc := 225) (tgt := 230) (sv_d k_Mo_takesClause 72 rfl) (by decide) ?_ ?_
            · refine sv_aload_n (pc := 230) 1 (sv_d k_Mo_takesClause 75 rfl) rfl rfl ?_
              refine sv_iconst (pc := 231) (v := (1 : Int32)) (sv_d k_Mo_takesClause 76 rfl) (by decide) ?_
              refine ss_putI (pc := 232) 19 (sv_d k_Mo_takesClause 77 rfl) cf12 (by decide) rfl w1321 kd187 (ss_lt (by decide)) rfl rfl (fun _ => rfl) (ss_lets (fun s19 e_s19 => ?_))
              refine sv_iconst (pc := 235) (v := (1 : Int32)) (sv_d k_Mo_takesClause 78 rfl) (by decide) ?_
              exact sv_ret (pc := 236) (sv_d k_Mo_takesClause 79 rfl) ⟨_, rfl, rfl⟩ rfl
            · refine sv_iconst (pc := 228) (v := (0 : Int32)) (sv_d k_Mo_takesClause 73 rfl) (by decide) ?_
              exact sv_ret (pc := 229) (sv_d k_Mo_takesClause 74 rfl) ⟨_, rfl, rfl⟩ rfl
          · refine sv_aload_n (pc := 193) 1 (sv_d k_Mo_takesClause 56 rfl) rfl rfl ?_
            refine sv_ldc2 (pc := 194) (v := (441972 : Int64)) w1637 (sv_d k_Mo_takesClause 57 rfl) ?_
            refine sv_iconst (pc := 197) (v := (4 : Int32)) (sv_d k_Mo_takesClause 58 rfl) (by decide) ?_
            refine sv_callV (pc := 198) (ψ := ss_i) (As := [.long (441972 : Int64), .int (4 : Int32)]) (rest := []) (c := 187) (sv_d k_Mo_takesClause 59 rfl) g_Mo_takesWord w1611 in_Mo_takesWord se_Mo_takesWord cf12 kd187 (ss_lt (by decide)) rfl (Nat.le_of_ble_eq_true rfl) (V_Mo_takesWord E (d + 2) (441972 : Int64) (4 : Int32) s) (Nat.le_of_ble_eq_true rfl) rfl (fun r20 => ?_)
            show sv_V E _ _ _ 201 _ [.int r20.1] (ss_e r20.2) _
            refine sv_if_eq (pc := 201) (tgt := 215) (sv_d k_Mo_takesClause 60 rfl) (by decide) ?_ ?_
            · refine sv_iconst (pc := 215) (v := (0 : Int32)) (sv_d k_Mo_takesClause 66 rfl) (by decide) ?_
              exact sv_ret (pc := 216) (sv_d k_Mo_takesClause 67 rfl) ⟨_, rfl, rfl⟩ rfl
            · refine sv_aload_n (pc := 204) 1 (sv_d k_Mo_takesClause 61 rfl) rfl rfl ?_
              refine sv_callV (pc := 205) (ψ := ss_i) (As := []) (rest := []) (c := 187) (sv_d k_Mo_takesClause 62 rfl) g_Mo_takesMost w1638 in_Mo_takesMost se_Mo_takesMost cf12 kd187 (ss_lt (by decide)) rfl (Nat.le_of_ble_eq_true rfl) (V_Mo_takesMost E (d + 1) r20.2) (Nat.le_of_ble_eq_true rfl) rfl (fun r21 => ?_)
              show sv_V E _ _ _ 208 _ [.int r21.1] (ss_e r21.2) _
              refine sv_if_eq (pc := 208) (tgt := 215) (sv_d k_Mo_takesClause 63 rfl) (by decide) ?_ ?_
              · refine sv_iconst (pc := 215) (v := (0 : Int32)) (sv_d k_Mo_takesClause 66 rfl) (by decide) ?_
                exact sv_ret (pc := 216) (sv_d k_Mo_takesClause 67 rfl) ⟨_, rfl, rfl⟩ rfl
              · refine sv_iconst (pc := 211) (v := (1 : Int32)) (sv_d k_Mo_takesClause 64 rfl) (by decide) ?_
                refine sv_goto (pc := 212) (tgt := 216) (sv_d k_Mo_takesClause 65 rfl) (by decide) ?_
                exact sv_ret (pc := 216) (sv_d k_Mo_takesClause 67 rfl) ⟨_, rfl, rfl⟩ rfl
        · refine ss_dec (fun hh25 => ?_) (fun hh25 => ?_)
          · refine sv_tab (pc := 40) (tgt := 402) (sv_d k_Mo_takesClause 24 rfl) (110 : Int32) hh25 (by decide) (by decide) rfl (by decide) ?_
            refine sv_aload_n (pc := 402) 1 (sv_d k_Mo_takesClause 168 rfl) rfl rfl ?_
            refine sv_ldc2 (pc := 403) (v := (486155365 : Int64)) w1664 (sv_d k_Mo_takesClause 169 rfl) ?_
            refine sv_bipush (pc := 406) (v := (6 : Int32)) (sv_d k_Mo_takesClause 170 rfl) (by decide) ?_
            refine sv_callV (pc := 408) (ψ := ss_i) (As := [.long (486155365 : Int64), .int (6 : Int32)]) (rest := []) (c := 187) (sv_d k_Mo_takesClause 171 rfl) g_Mo_takesWord w1611 in_Mo_takesWord se_Mo_takesWord cf12 kd187 (ss_lt (by decide)) rfl (Nat.le_of_ble_eq_true rfl) (V_Mo_takesWord E (d + 2) (486155365 : Int64) (6 : Int32) s) (Nat.le_of_ble_eq_true rfl) rfl (fun r23 => ?_)
            show sv_V E _ _ _ 411 _ [.int r23.1] (ss_e r23.2) _
            refine sv_if_eq (pc := 411) (tgt := 426) (sv_d k_Mo_takesClause 172 rfl) (by decide) ?_ ?_
            · refine sv_iconst (pc := 426) (v := (0 : Int32)) (sv_d k_Mo_takesClause 179 rfl) (by decide) ?_
              exact sv_ret (pc := 427) (sv_d k_Mo_takesClause 180 rfl) ⟨_, rfl, rfl⟩ rfl
            · refine sv_aload_n (pc := 414) 1 (sv_d k_Mo_takesClause 173 rfl) rfl rfl ?_
              refine sv_iconst (pc := 415) (v := (2 : Int32)) (sv_d k_Mo_takesClause 174 rfl) (by decide) ?_
              refine sv_callV (pc := 416) (ψ := ss_i) (As := [.int (2 : Int32)]) (rest := []) (c := 187) (sv_d k_Mo_takesClause 175 rfl) g_Mo_takesPlain w1620 in_Mo_takesPlain se_Mo_takesPlain cf12 kd187 (ss_lt (by decide)) rfl (Nat.le_of_ble_eq_true rfl) (V_Mo_takesPlain E (d + 1) (2 : Int32) r23.2) (Nat.le_of_ble_eq_true rfl) rfl (fun r24 => ?_)
              show sv_V E _ _ _ 419 _ [.int r24.1] (ss_e r24.2) _
              refine sv_if_eq (pc := 419) (tgt := 426) (sv_d k_Mo_takesClause 176 rfl) (by decide) ?_ ?_
              · refine sv_iconst (pc := 426) (v := (0 : Int32)) (sv_d k_Mo_takesClause 179 rfl) (by decide) ?_
                exact sv_ret (pc := 427) (sv_d k_Mo_takesClause 180 rfl) ⟨_, rfl, rfl⟩ rfl
              · refine sv_iconst (pc := 422) (v := (1 : Int32)) (sv_d k_Mo_takesClause 177 rfl) (by decide) ?_
                refine sv_goto (pc := 423) (tgt := 427) (sv_d k_Mo_takesClause 178 rfl) (by decide) ?_
                exact sv_ret (pc := 427) (sv_d k_Mo_takesClause 180 rfl) ⟨_, rfl, rfl⟩ rfl
          · refine ss_dec (fun hh33 => ?_) (fun hh33 => ?_)
            · refine sv_tab (pc := 40) (tgt := 305) (sv_d k_Mo_takesClause 24 rfl) (115 : Int32) hh33 (by decide) (by decide) rfl (by decide) ?_
              refine sv_iload_n (pc := 305) 0 (sv_d k_Mo_takesClause 117 rfl) rfl rfl ?_
              refine sv_bipush (pc := 306) (v := (97 : Int32)) (sv_d k_Mo_takesClause 118 rfl) (by decide) ?_
              refine sv_icmp_ne (pc := 308) (tgt := 352) (sv_d k_Mo_takesClause 119 rfl) (by decide) ?_ ?_
              · refine sv_aload_n (pc := 352) 1 (sv_d k_Mo_takesClause 142 rfl) rfl rfl ?_
                refine sv_ldc2 (pc := 353) (v := (20350348 : Int64)) w1662 (sv_d k_Mo_takesClause 143 rfl) ?_
                refine sv_iconst (pc := 356) (v := (5 : Int32)) (sv_d k_Mo_takesClause 144 rfl) (by decide) ?_
                refine sv_callV (pc := 357) (ψ := ss_i) (As := [.long (20350348 : Int64), .int (5 : Int32)]) (rest := []) (c := 187) (sv_d k_Mo_takesClause 145 rfl) g_Mo_takesWord w1611 in_Mo_takesWord se_Mo_takesWord cf12 kd187 (ss_lt (by decide)) rfl (Nat.le_of_ble_eq_true rfl) (V_Mo_takesWord E (d + 2) (20350348 : Int64) (5 : Int32) s) (Nat.le_of_ble_eq_true rfl) rfl (fun r26 => ?_)
                show sv_V E _ _ _ 360 _ [.int r26.1] (ss_e r26.2) _
                refine sv_if_eq (pc := 360) (tgt := 375) (sv_d k_Mo_takesClause 146 rfl) (by decide) ?_ ?_
                · refine sv_iconst (pc := 375) (v := (0 : Int32)) (sv_d k_Mo_takesClause 153 rfl) (by decide) ?_
                  exact sv_ret (pc := 376) (sv_d k_Mo_takesClause 154 rfl) ⟨_, rfl, rfl⟩ rfl
                · refine sv_aload_n (pc := 363) 1 (sv_d k_Mo_takesClause 147 rfl) rfl rfl ?_
                  refine sv_iconst (pc := 364) (v := (1 : Int32)) (sv_d k_Mo_takesClause 148 rfl) (by decide) ?_
                  refine sv_callV (pc := 365) (ψ := ss_i) (As := [.int (1 : Int32)]) (rest := []) (c := 187) (sv_d k_Mo_takesClause 149 rfl) g_Mo_takesPlain w1620 in_Mo_takesPlain se_Mo_takesPlain cf12 kd187 (ss_lt (by decide)) rfl (Nat.le_of_ble_eq_true rfl) (V_Mo_takesPlain E (d + 1) (1 : Int32) r26.2) (Nat.le_of_ble_eq_true rfl) rfl (fun r27 => ?_)
                  show sv_V E _ _ _ 368 _ [.int r27.1] (ss_e r27.2) _
                  refine sv_if_eq (pc := 368) (tgt := 375) (sv_d k_Mo_takesClause 150 rfl) (by decide) ?_ ?_
                  · refine sv_iconst (pc := 375) (v := (0 : Int32)) (sv_d k_Mo_takesClause 153 rfl) (by decide) ?_
                    exact sv_ret (pc := 376) (sv_d k_Mo_takesClause 154 rfl) ⟨_, rfl, rfl⟩ rfl
                  · refine sv_iconst (pc := 371) (v := (1 : Int32)) (sv_d k_Mo_takesClause 151 rfl) (by decide) ?_
                    refine sv_goto (pc := 372) (tgt := 376) (sv_d k_Mo_takesClause 152 rfl) (by decide) ?_
                    exact sv_ret (pc := 376) (sv_d k_Mo_takesClause 154 rfl) ⟨_, rfl, rfl⟩ rfl
              · refine sv_aload_n (pc := 311) 1 (sv_d k_Mo_takesClause 120 rfl) rfl rfl ?_
                refine sv_ldc2 (pc := 312) (v := (624037 : Int64)) w1661 (sv_d k_Mo_takesClause 121 rfl) ?_
                refine sv_iconst (pc := 315) (v := (4 : Int32)) (sv_d k_Mo_takesClause 122 rfl) (by decide) ?_
                refine sv_callV (pc := 316) (ψ := ss_i) (As := [.long (624037 : Int64), .int (4 : Int32)]) (rest := []) (c := 187) (sv_d k_Mo_takesClause 123 rfl) g_Mo_takesWord w1611 in_Mo_takesWord se_Mo_takesWord cf12 kd187 (ss_lt (by decide)) rfl (Nat.le_of_ble_eq_true rfl) (V_Mo_takesWord E (d + 2) (624037 : Int64) (4 : Int32) s) (Nat.le_of_ble_eq_true rfl) rfl (fun r28 => ?_)
                show sv_V E _ _ _ 319 _ [.int r28.1] (ss_e r28.2) _
                refine sv_if_eq (pc := 319) (tgt := 338) (sv_d k_Mo_takesClause 124 rfl) (by decide) ?_ ?_
                · refine sv_iconst (pc := 338) (v := (0 : Int32)) (sv_d k_Mo_takesClause 132 rfl) (by decide) ?_
                  exact sv_ret (pc := 339) (sv_d k_Mo_takesClause 133 rfl) ⟨_, rfl, rfl⟩ rfl
                · refine sv_aload_n (pc := 322) 1 (sv_d k_Mo_takesClause 125 rfl) rfl rfl ?_
                  refine sv_bipush (pc := 323) (v := (32 : Int32)) (sv_d k_Mo_takesClause 126 rfl) (by decide) ?_
                  refine sv_callV (pc := 325) (ψ := ss_i) (As := [.int (32 : Int32)]) (rest := []) (c := 187) (sv_d k_Mo_takesClause 127 rfl) g_Mo_takes w1616 in_Mo_takes se_Mo_takes cf12 kd187 (ss_lt (by decide)) rfl (Nat.le_of_ble_eq_true rfl) (V_Mo_takes E (d + 3) (32 : Int32) r28.2) (Nat.le_of_ble_eq_true rfl) rfl (fun r29 => ?_)
                  show sv_V E _ _ _ 328 _ [.int r29.1] (ss_e r29.2) _
                  refine sv_if_eq (pc := 328) (tgt := 338) (sv_d k_Mo_takesClause 128 rfl) (by decide) ?_ ?_
                  · refine sv_iconst (pc := 338) (v := (0 : Int32)) (sv_d k_Mo_takesClause 132 rfl) (by decide) ?_
                    exact sv_ret (pc := 339) (sv_d k_Mo_takesClause 133 rfl) ⟨_, rfl, rfl⟩ rfl
                  · refine sv_aload_n (pc := 331) 1 (sv_d k_Mo_takesClause 129 rfl) rfl rfl ?_
                    refine sv_callV (pc := 332) (ψ := ss_i) (As := []) (rest := []) (c := 187) (sv_d k_Mo_takesClause 130 rfl) g_Mo_takesE w1644 in_Mo_takesE se_Mo_takesE cf12 kd187 (ss_lt (by decide)) rfl (Nat.le_of_ble_eq_true rfl) (V_Mo_takesE E (d + 0) r29.2) (Nat.le_of_ble_eq_true rfl) rfl (fun r30 => ?_)
                    show sv_V E _ _ _ 335 _ [.int r30.1] (ss_e r30.2) _
                    refine sv_if_ne (pc := 335) (tgt := 340) (sv_d k_Mo_takesClause 131 rfl) (by decide) ?_ ?_
                    · refine sv_aload_n (pc := 340) 1 (sv_d k_Mo_takesClause 134 rfl) rfl rfl ?_
                      refine sv_aload_n (pc := 341) 1 (sv_d k_Mo_takesClause 135 rfl) rfl rfl ?_
                      refine sv_getf (pc := 342) 28 (sv_d k_Mo_takesClause 136 rfl) cf12 (by decide) w1330 kd187 (ss_lt (by decide)) (lr_187_28 E _) ?_
                      refine sv_iconst (pc := 345) (v := (0 : Int32)) (sv_d k_Mo_takesClause 137 rfl) (by decide) ?_
                      refine ss_zald (pc := 346) (n := 141) (sv_d k_Mo_takesClause 138 rfl) kd204 (ss_lt (by decide)) rfl ?_
                      refine ss_grd (fun bb32 => ?_)
                      refine ss_putI (pc := 347) 20 (sv_d k_Mo_takesClause 139 rfl) cf12 (by decide) rfl w1322 kd187 (ss_lt (by decide)) (sv_bln bb32) (sv_blf bb32) (fun _ => rfl) (ss_lets (fun s31 e_s31 => ?_))
                      refine sv_iconst (pc := 350) (v := (1 : Int32)) (sv_d k_Mo_takesClause 140 rfl) (by decide) ?_
                      exact sv_ret (pc := 351) (sv_d k_Mo_takesClause 141 rfl) ⟨_, rfl, rfl⟩ rfl
                    · refine sv_iconst (pc := 338) (v := (0 : Int32)) (sv_d k_Mo_takesClause 132 rfl) (by decide) ?_
                      exact sv_ret (pc := 339) (sv_d k_Mo_takesClause 133 rfl) ⟨_, rfl, rfl⟩ rfl
            · refine ss_dec (fun hh36 => ?_) (fun hh36 => ?_)
              · refine sv_tab (pc := 40) (tgt := 377) (sv_d k_Mo_takesClause 24 rfl) (116 : Int32) hh36 (by decide) (by decide) rfl (by decide) ?_
                refine sv_aload_n (pc := 377) 1 (sv_d k_Mo_takesClause 155 rfl) rfl rfl ?_
                refine sv_ldc2 (pc := 378) (v := (661069 : Int64)) w1663 (sv_d k_Mo_takesClause 156 rfl) ?_
                refine sv_iconst (pc := 381) (v := (4 : Int32)) (sv_d k_Mo_takesClause 157 rfl) (by decide) ?_
                refine sv_callV (pc := 382) (ψ := ss_i) (As := [.long (661069 : Int64), .int (4 : Int32)]) (rest := []) (c := 187) (sv_d k_Mo_takesClause 158 rfl) g_Mo_takesWord w1611 in_Mo_takesWord se_Mo_takesWord cf12 kd187 (ss_lt (by decide)) rfl (Nat.le_of_ble_eq_true rfl) (V_Mo_takesWord E (d + 2) (661069 : Int64) (4 : Int32) s) (Nat.le_of_ble_eq_true rfl) rfl (fun r34 => ?_)
                show sv_V E _ _ _ 385 _ [.int r34.1] (ss_e r34.2) _
                refine sv_if_eq (pc := 385) (tgt := 400) (sv_d k_Mo_takesClause 159 rfl) (by decide) ?_ ?_
                · refine sv_iconst (pc := 400) (v := (0 : Int32)) (sv_d k_Mo_takesClause 166 rfl) (by decide) ?_
                  exact sv_ret (pc := 401) (sv_d k_Mo_takesClause 167 rfl) ⟨_, rfl, rfl⟩ rfl
                · refine sv_aload_n (pc := 388) 1 (sv_d k_Mo_takesClause 160 rfl) rfl rfl ?_
                  refine sv_iconst (pc := 389) (v := (0 : Int32)) (sv_d k_Mo_takesClause 161 rfl) (by decide) ?_
                  refine sv_callV (pc := 390) (ψ := ss_i) (As := [.int (0 : Int32)]) (rest := []) (c := 187) (sv_d k_Mo_takesClause 162 rfl) g_Mo_takesPlain w1620 in_Mo_takesPlain se_Mo_takesPlain cf12 kd187 (ss_lt (by decide)) rfl (Nat.le_of_ble_eq_true rfl) (V_Mo_takesPlain E (d + 1) (0 : Int32) r34.2) (Nat.le_of_ble_eq_true rfl) rfl (fun r35 => ?_)
                  show sv_V E _ _ _ 393 _ [.int r35.1] (ss_e r35.2) _
                  refine sv_if_eq (pc := 393) (tgt := 400) (sv_d k_Mo_takesClause 163 rfl) (by decide) ?_ ?_
                  · refine sv_iconst (pc := 400) (v := (0 : Int32)) (sv_d k_Mo_takesClause 166 rfl) (by decide) ?_
                    exact sv_ret (pc := 401) (sv_d k_Mo_takesClause 167 rfl) ⟨_, rfl, rfl⟩ rfl
                  · refine sv_iconst (pc := 396) (v := (1 : Int32)) (sv_d k_Mo_takesClause 164 rfl) (by decide) ?_
                    refine sv_goto (pc := 397) (tgt := 401) (sv_d k_Mo_takesClause 165 rfl) (by decide) ?_
                    exact sv_ret (pc := 401) (sv_d k_Mo_takesClause 167 rfl) ⟨_, rfl, rfl⟩ rfl
              · by_cases hz99 : x1 = (99 : Int32)
                · refine sv_tab (pc := 40) (tgt := 453) (sv_d k_Mo_takesClause 24 rfl) (99 : Int32) hz99 (by decide) (by decide) rfl (by decide) ?_
                  refine sv_iconst (pc := 453) (v := (0 : Int32)) (sv_d k_Mo_takesClause 194 rfl) (by decide) ?_
                  exact sv_ret (pc := 454) (sv_d k_Mo_takesClause 195 rfl) ⟨_, rfl, rfl⟩ rfl
                by_cases hz100 : x1 = (100 : Int32)
                · refine sv_tab (pc := 40) (tgt := 453) (sv_d k_Mo_takesClause 24 rfl) (100 : Int32) hz100 (by decide) (by decide) rfl (by decide) ?_
                  refine sv_iconst (pc := 453) (v := (0 : Int32)) (sv_d k_Mo_takesClause 194 rfl) (by decide) ?_
                  exact sv_ret (pc := 454) (sv_d k_Mo_takesClause 195 rfl) ⟨_, rfl, rfl⟩ rfl
                by_cases hz102 : x1 = (102 : Int32)
                · refine sv_tab (pc := 40) (tgt := 453) (sv_d k_Mo_takesClause 24 rfl) (102 : Int32) hz102 (by decide) (by decide) rfl (by decide) ?_
                  refine sv_iconst (pc := 453) (v := (0 : Int32)) (sv_d k_Mo_takesClause 194 rfl) (by decide) ?_
                  exact sv_ret (pc := 454) (sv_d k_Mo_takesClause 195 rfl) ⟨_, rfl, rfl⟩ rfl
                by_cases hz104 : x1 = (104 : Int32)
                · refine sv_tab (pc := 40) (tgt := 453) (sv_d k_Mo_takesClause 24 rfl) (104 : Int32) hz104 (by decide) (by decide) rfl (by decide) ?_
                  refine sv_iconst (pc := 453) (v := (0 : Int32)) (sv_d k_Mo_takesClause 194 rfl) (by decide) ?_
                  exact sv_ret (pc := 454) (sv_d k_Mo_takesClause 195 rfl) ⟨_, rfl, rfl⟩ rfl
                by_cases hz105 : x1 = (105 : Int32)
                · refine sv_tab (pc := 40) (tgt := 453) (sv_d k_Mo_takesClause 24 rfl) (105 : Int32) hz105 (by decide) (by decide) rfl (by decide) ?_
                  refine sv_iconst (pc := 453) (v := (0 : Int32)) (sv_d k_Mo_takesClause 194 rfl) (by decide) ?_
                  exact sv_ret (pc := 454) (sv_d k_Mo_takesClause 195 rfl) ⟨_, rfl, rfl⟩ rfl
                by_cases hz106 : x1 = (106 : Int32)
                · refine sv_tab (pc := 40) (tgt := 453) (sv_d k_Mo_takesClause 24 rfl) (106 : Int32) hz106 (by decide) (by decide) rfl (by decide) ?_
                  refine sv_iconst (pc := 453) (v := (0 : Int32)) (sv_d k_Mo_takesClause 194 rfl) (by decide) ?_
                  exact sv_ret (pc := 454) (sv_d k_Mo_takesClause 195 rfl) ⟨_, rfl, rfl⟩ rfl
                by_cases hz107 : x1 = (107 : Int32)
                · refine sv_tab (pc := 40) (tgt := 453) (sv_d k_Mo_takesClause 24 rfl) (107 : Int32) hz107 (by decide) (by decide) rfl (by decide) ?_
                  refine sv_iconst (pc := 453) (v := (0 : Int32)) (sv_d k_Mo_takesClause 194 rfl) (by decide) ?_
                  exact sv_ret (pc := 454) (sv_d k_Mo_takesClause 195 rfl) ⟨_, rfl, rfl⟩ rfl
                by_cases hz108 : x1 = (108 : Int32)
                · refine sv_tab (pc := 40) (tgt := 453) (sv_d k_Mo_takesClause 24 rfl) (108 : Int32) hz108 (by decide) (by decide) rfl (by decide) ?_
                  refine sv_iconst (pc := 453) (v := (0 : Int32)) (sv_d k_Mo_takesClause 194 rfl) (by decide) ?_
                  exact sv_ret (pc := 454) (sv_d k_Mo_takesClause 195 rfl) ⟨_, rfl, rfl⟩ rfl
                by_cases hz111 : x1 = (111 : Int32)
                · refine sv_tab (pc := 40) (tgt := 453) (sv_d k_Mo_takesClause 24 rfl) (111 : Int32) hz111 (by decide) (by decide) rfl (by decide) ?_
                  refine sv_iconst (pc := 453) (v := (0 : Int32)) (sv_d k_Mo_takesClause 194 rfl) (by decide) ?_
                  exact sv_ret (pc := 454) (sv_d k_Mo_takesClause 195 rfl) ⟨_, rfl, rfl⟩ rfl
                by_cases hz112 : x1 = (112 : Int32)
                · refine sv_tab (pc := 40) (tgt := 453) (sv_d k_Mo_takesClause 24 rfl) (112 : Int32) hz112 (by decide) (by decide) rfl (by decide) ?_
                  refine sv_iconst (pc := 453) (v := (0 : Int32)) (sv_d k_Mo_takesClause 194 rfl) (by decide) ?_
                  exact sv_ret (pc := 454) (sv_d k_Mo_takesClause 195 rfl) ⟨_, rfl, rfl⟩ rfl
                by_cases hz113 : x1 = (113 : Int32)
                · refine sv_tab (pc := 40) (tgt := 453) (sv_d k_Mo_takesClause 24 rfl) (113 : Int32) hz113 (by decide) (by decide) rfl (by decide) ?_
                  refine sv_iconst (pc := 453) (v := (0 : Int32)) (sv_d k_Mo_takesClause 194 rfl) (by decide) ?_
                  exact sv_ret (pc := 454) (sv_d k_Mo_takesClause 195 rfl) ⟨_, rfl, rfl⟩ rfl
                by_cases hz114 : x1 = (114 : Int32)
                · refine sv_tab (pc := 40) (tgt := 453) (sv_d k_Mo_takesClause 24 rfl) (114 : Int32) hz114 (by decide) (by decide) rfl (by decide) ?_
                  refine sv_iconst (pc := 453) (v := (0 : Int32)) (sv_d k_Mo_takesClause 194 rfl) (by decide) ?_
                  exact sv_ret (pc := 454) (sv_d k_Mo_takesClause 195 rfl) ⟨_, rfl, rfl⟩ rfl
                refine sv_tabD (pc := 40) (tgt := 453) (sv_d k_Mo_takesClause 24 rfl) (by rcases Int.lt_or_le (Int32.toInt x1) (98) with q | q; exact Or.inl q; have q := (sv_nlt (sv_nlt (sv_nlt (sv_nlt (sv_nlt (sv_nlt (sv_nlt (sv_nlt (sv_nlt (sv_nlt (sv_nlt (sv_nlt (sv_nlt (sv_nlt (sv_nlt (sv_nlt (sv_nlt (sv_nlt (sv_nlt q (lv_neT hh4 rfl)) (lv_neT hz99 rfl)) (lv_neT hz100 rfl)) (lv_neT hh12 rfl)) (lv_neT hz102 rfl)) (lv_neT hh17 rfl)) (lv_neT hz104 rfl)) (lv_neT hz105 rfl)) (lv_neT hz106 rfl)) (lv_neT hz107 rfl)) (lv_neT hz108 rfl)) (lv_neT hh22 rfl)) (lv_neT hh25 rfl)) (lv_neT hz111 rfl)) (lv_neT hz112 rfl)) (lv_neT hz113 rfl)) (lv_neT hz114 rfl)) (lv_neT hh33 rfl)) (lv_neT hh36 rfl)); exact Or.inr (by omega)) (by decide) ?_
                refine sv_iconst (pc := 453) (v := (0 : Int32)) (sv_d k_Mo_takesClause 194 rfl) (by decide) ?_
                exact sv_ret (pc := 454) (sv_d k_Mo_takesClause 195 rfl) ⟨_, rfl, rfl⟩ rfl
def F_Mo_takesClause (s : sv_S) : Option (Int32 × sv_S) :=
  (F_Mo_next s).bind fun r1 =>
  if (s.1 187 24) ≤ ((s.1 187 25) + (1 : Int32)) then
    F_Mo_takesClause_b38 r1 (-1 : Int32) s
  else
  if sv_ib (((s.1 187 23) + (s.1 187 25)) + (1 : Int32)) 2380 = true then
    F_Mo_takesClause_b38 r1 (s.1 197 (((s.1 187 23) + (s.1 187 25)) + (1 : Int32)).toNatClampNeg) s
  else none
theorem V_Mo_takesClause (E : sv_E) (d : Nat) (s : sv_S) : sv_V E m_Mo_takesClause (d + 5) ss_i 0 (lv_args 0 [sv_r E 187]) [] (ss_e s) (F_Mo_takesClause s) := by
  show sv_V E m_Mo_takesClause (d + 5) ss_i 0 [(0, sv_r E 187)] [] (ss_e s) _
  unfold F_Mo_takesClause
  refine sv_aload_n (pc := 0) 0 (sv_d k_Mo_takesClause 0 rfl) rfl rfl ?_
  refine sv_callV (pc := 1) (ψ := (ss_pi s)) (As := []) (rest := []) (c := 187) (sv_d k_Mo_takesClause 1 rfl) g_Mo_next w1606 in_Mo_next se_Mo_next cf12 kd187 (ss_lt (by decide)) rfl (Nat.le_of_ble_eq_true rfl) (V_Mo_next E (d + 4) s) (Nat.le_of_ble_eq_true rfl) rfl (fun r1 => ?_)
  show sv_V E _ _ _ 4 _ [.int r1] (ss_e s) _
  refine sv_istore_n (pc := 4) (lv' := [(1, .int r1), (0, sv_r E 187)]) (sv_d k_Mo_takesClause 2 rfl) rfl (by decide) rfl ?_
  refine sv_aload_n (pc := 5) 1 (sv_d k_Mo_takesClause 3 rfl) rfl rfl ?_
  refine sv_getf (pc := 6) 25 (sv_d k_Mo_takesClause 4 rfl) cf12 (by decide) w1327 kd187 (ss_lt (by decide)) rfl ?_
  refine sv_iconst (pc := 9) (v := (1 : Int32)) (sv_d k_Mo_takesClause 5 rfl) (by decide) ?_
  refine sv_iadd (pc := 10) (sv_d k_Mo_takesClause 6 rfl) ?_
  refine sv_aload_n (pc := 11) 1 (sv_d k_Mo_takesClause 7 rfl) rfl rfl ?_
  refine sv_getf (pc := 12) 24 (sv_d k_Mo_takesClause 8 rfl) cf12 (by decide) w1326 kd187 (ss_lt (by decide)) rfl ?_
  refine sv_icmp_ge (pc := 15) (tgt := 37) (sv_d k_Mo_takesClause 9 rfl) (by decide) ?_ ?_
  · refine sv_iconst (pc := 37) (v := (-1 : Int32)) (sv_d k_Mo_takesClause 21 rfl) (by decide) ?_
    exact sv_loc [1, 0] rfl (V_Mo_takesClause_b38 E d r1 (-1 : Int32) s)
  · refine sv_aload_n (pc := 18) 1 (sv_d k_Mo_takesClause 10 rfl) rfl rfl ?_
    refine sv_getf (pc := 19) 14 (sv_d k_Mo_takesClause 11 rfl) cf12 (by decide) w1316 kd187 (ss_lt (by decide)) (lr_187_14 E _) ?_
    refine sv_aload_n (pc := 22) 1 (sv_d k_Mo_takesClause 12 rfl) rfl rfl ?_
    refine sv_getf (pc := 23) 23 (sv_d k_Mo_takesClause 13 rfl) cf12 (by decide) w1325 kd187 (ss_lt (by decide)) rfl ?_
    refine sv_aload_n (pc := 26) 1 (sv_d k_Mo_takesClause 14 rfl) rfl rfl ?_
    refine sv_getf (pc := 27) 25 (sv_d k_Mo_takesClause 15 rfl) cf12 (by decide) w1327 kd187 (ss_lt (by decide)) rfl ?_
    refine sv_iadd (pc := 30) (sv_d k_Mo_takesClause 16 rfl) ?_
    refine sv_iconst (pc := 31) (v := (1 : Int32)) (sv_d k_Mo_takesClause 17 rfl) (by decide) ?_
    refine sv_iadd (pc := 32) (sv_d k_Mo_takesClause 18 rfl) ?_
    refine ss_iald (pc := 33) (n := 2380) (sv_d k_Mo_takesClause 19 rfl) kd197 (ss_lt (by decide)) rfl ?_
    refine sv_goto (pc := 34) (tgt := 38) (sv_d k_Mo_takesClause 20 rfl) (by decide) ?_
    exact sv_loc [1, 0] rfl (V_Mo_takesClause_b38 E d r1 (s.1 197 (((s.1 187 23) + (s.1 187 25)) + (1 : Int32)).toNatClampNeg) s)
/-! Mo_goes -/
abbrev m_Mo_goes : sv_M := (yX12_goes, cX12_goes, 3, (some .boolean))
def t_Mo_goes : List (Nat × Instr × Nat) := [(0, .aload_n 0, 1), (1, .sipush 140, 3), (4, .iload_n 1, 1), (5, .imul, 1), (6, .putfield 81, 3), (9, .aload_n 0, 1), (10, .aload_n 0, 1), (11, .getfield 56, 3), (14, .iload_n 1, 1), (15, .iaload, 1), (16, .putfield 84, 3), (19, .aload_n 0, 1), (20, .iconst 0, 1), (21, .putfield 87, 3), (24, .iconst 0, 1), (25, .istore_n 2, 1), (26, .aload_n 0, 1), (27, .invokevirtual 343, 3), (30, .ifCond .ne 5, 3), (33, .iconst 0, 1), (34, .ireturn, 1), (35, .iinc 2 1, 3), (38, .aload_n 0, 1), (39, .getfield 87, 3), (42, .aload_n 0, 1), (43, .getfield 84, 3), (46, .if_icmp .ne 5, 3), (49, .iconst 1, 1), (50, .ireturn, 1), (51, .iload_n 2, 1), (52, .bipush 10, 2), (54, .if_icmp .eq 12, 3), (57, .aload_n 0, 1), (58, .bipush 59, 2), (60, .invokevirtual 285, 3), (63, .ifCond .ne (-37), 3), (66, .iconst 0, 1), (67, .ireturn, 1)]
theorem k_Mo_goes : sv_tk m_Mo_goes.2.1 t_Mo_goes := by decide +kernel
theorem g_Mo_goes : sv_G m_Mo_goes 1 := ⟨by decide +kernel, sv_in 1601 (by decide +kernel) rfl, sv_in 103 (by decide +kernel) rfl, ⟨by decide, by decide⟩, by decide +kernel, by decide⟩
theorem in_Mo_goes : Cond.instanceMethod m_Mo_goes.1 ∈ sv_T := sv_in 1600 (by decide +kernel) rfl
theorem se_Mo_goes : Cond.selects m_Mo_goes.1.cls m_Mo_goes.1 m_Mo_goes.1 ∈ sv_T := sv_in 42 (by decide +kernel) rfl
def F_Mo_goes_b26 : Nat → Int32 → sv_S → Option (Int32 × sv_S)
  | 0 => fun _ _ => none
  | n + 1 => fun x2 s =>
    (F_Mo_takesClause s).bind fun r4 =>
    if r4.1 = 0 then
      some ((0 : Int32), r4.2)
    else
    ss_let (x2 + (1 : Int32)) fun v5 =>
    if (r4.2.1 187 25) = (r4.2.1 187 24) then
      some ((1 : Int32), r4.2)
    else
    if v5 = (10 : Int32) then
      some ((0 : Int32), r4.2)
    else
    (F_Mo_takes (59 : Int32) r4.2).bind fun r6 =>
    if r6.1 = 0 then
      some ((0 : Int32), r6.2)
    else
    F_Mo_goes_b26  n v5 r6.2
theorem V_Mo_goes_b26 (E : sv_E) (d : Nat) : ∀ (n : Nat) (x2 : Int32) (s : sv_S), sv_V E m_Mo_goes (d + 6) ss_i 26 [(0, sv_r E 187), (2, .int x2)] [] (ss_e s) (F_Mo_goes_b26 n x2 s) := by
  intro n
  induction n with
  | zero => intro x2 s; exact sv_none
  | succ n ih =>
    intro x2 s
    unfold F_Mo_goes_b26
    refine sv_aload_n (pc := 26) 0 (sv_d k_Mo_goes 16 rfl) rfl rfl ?_
    refine sv_callV (pc := 27) (ψ := ss_i) (As := []) (rest := []) (c := 187) (sv_d k_Mo_goes 17 rfl) g_Mo_takesClause w1602 in_Mo_takesClause se_Mo_takesClause cf12 kd187 (ss_lt (by decide)) rfl (Nat.le_of_ble_eq_true rfl) (V_Mo_takesClause E (d + 0) s) (Nat.le_of_ble_eq_true rfl) rfl (fun r4 => ?_)
    show sv_V E _ _ _ 30 _ [.int r4.1] (ss_e r4.2) _
    refine sv_if_ne (pc := 30) (tgt := 35) (sv_d k_Mo_goes 18 rfl) (by decide) ?_ ?_
    · refine ss_letr (fun v5 e_v5 => ?_)
      refine sv_iinc (pc := 35) (v := v5) (lv' := [(2, .int v5), (0, sv_r E 187)]) (sv_d k_Mo_goes 21 rfl) (n := 1) rfl (by rw [e_v5]; rfl) (by decide) rfl ?_
      refine sv_aload_n (pc := 38) 1 (sv_d k_Mo_goes 22 rfl) rfl rfl ?_
      refine sv_getf (pc := 39) 25 (sv_d k_Mo_goes 23 rfl) cf12 (by decide) w1327 kd187 (ss_lt (by decide)) rfl ?_
      refine sv_aload_n (pc := 42) 1 (sv_d k_Mo_goes 24 rfl) rfl rfl ?_
      refine sv_getf (pc := 43) 24 (sv_d k_Mo_goes 25 rfl) cf12 (by decide) w1326 kd187 (ss_lt (by decide)) rfl ?_
      refine sv_icmp_ne (pc := 46) (tgt := 51) (sv_d k_Mo_goes 26 rfl) (by decide) ?_ ?_
      · refine sv_iload_n (pc := 51) 0 (sv_d k_Mo_goes 29 rfl) rfl rfl ?_
        refine sv_bipush (pc := 52) (v := (10 : Int32)) (sv_d k_Mo_goes 30 rfl) (by decide) ?_
        refine sv_icmp_eq (pc := 54) (tgt := 66) (sv_d k_Mo_goes 31 rfl) (by decide) ?_ ?_
        · refine sv_iconst (pc := 66) (v := (0 : Int32)) (sv_d k_Mo_goes 36 rfl) (by decide) ?_
          exact sv_ret (pc := 67) (sv_d k_Mo_goes 37 rfl) ⟨_, rfl, rfl⟩ rfl
        · refine sv_aload_n (pc := 57) 1 (sv_d k_Mo_goes 32 rfl) rfl rfl ?_
          refine sv_bipush (pc := 58) (v := (59 : Int32)) (sv_d k_Mo_goes 33 rfl) (by decide) ?_
          refine sv_callV (pc := 60) (ψ := ss_i) (As := [.int (59 : Int32)]) (rest := []) (c := 187) (sv_d k_Mo_goes 34 rfl) g_Mo_takes w1616 in_Mo_takes se_Mo_takes cf12 kd187 (ss_lt (by decide)) rfl (Nat.le_of_ble_eq_true rfl) (V_Mo_takes E (d + 4) (59 : Int32) r4.2) (Nat.le_of_ble_eq_true rfl) rfl (fun r6 => ?_)
          show sv_V E _ _ _ 63 _ [.int r6.1] (ss_e r6.2) _
          refine sv_if_ne (pc := 63) (tgt := 26) (sv_d k_Mo_goes 35 rfl) (by decide) ?_ ?_
          · exact sv_loc [1, 0] rfl (ih v5 r6.2)
          · refine sv_iconst (pc := 66) (v := (0 : Int32)) (sv_d k_Mo_goes 36 rfl) (by decide) ?_
            exact sv_ret (pc := 67) (sv_d k_Mo_goes 37 rfl) ⟨_, rfl, rfl⟩ rfl
      · refine sv_iconst (pc := 49) (v := (1 : Int32)) (sv_d k_Mo_goes 27 rfl) (by decide) ?_
        exact sv_ret (pc := 50) (sv_d k_Mo_goes 28 rfl) ⟨_, rfl, rfl⟩ rfl
    · refine sv_iconst (pc := 33) (v := (0 : Int32)) (sv_d k_Mo_goes 19 rfl) (by decide) ?_
      exact sv_ret (pc := 34) (sv_d k_Mo_goes 20 rfl) ⟨_, rfl, rfl⟩ rfl
def F_Mo_goes (x1 : Int32) (s : sv_S) : Option (Int32 × sv_S) :=
  ss_let (ss_setI s 187 23 ((140 : Int32) * x1)) fun s1 =>
  if sv_ib x1 17 = true then
    ss_let (ss_setI s1 187 24 (s1.1 198 x1.toNatClampNeg)) fun s2 =>
    ss_let (ss_setI s2 187 25 (0 : Int32)) fun s3 =>
    F_Mo_goes_b26 ss_F (0 : Int32) s3
  else none
theorem V_Mo_goes (E : sv_E) (d : Nat) (x1 : Int32) (s : sv_S) : sv_V E m_Mo_goes (d + 6) ss_i 0 (lv_args 0 [sv_r E 187, .int x1]) [] (ss_e s) (F_Mo_goes x1 s) := by
  show sv_V E m_Mo_goes (d + 6) ss_i 0 [(0, sv_r E 187), (1, .int x1)] [] (ss_e s) _
  unfold F_Mo_goes
  refine sv_aload_n (pc := 0) 0 (sv_d k_Mo_goes 0 rfl) rfl rfl ?_
  refine sv_sipush (pc := 1) (v := (140 : Int32)) (sv_d k_Mo_goes 1 rfl) (by decide) ?_
  refine sv_iload_n (pc := 4) 1 (sv_d k_Mo_goes 2 rfl) rfl rfl ?_
  refine sv_imul (pc := 5) (sv_d k_Mo_goes 3 rfl) ?_
  refine ss_putI (pc := 6) 23 (sv_d k_Mo_goes 4 rfl) cf12 (by decide) rfl w1325 kd187 (ss_lt (by decide)) rfl rfl (fun _ => rfl) (ss_lets (fun s1 e_s1 => ?_))
  refine sv_aload_n (pc := 9) 0 (sv_d k_Mo_goes 5 rfl) rfl rfl ?_
  refine sv_aload_n (pc := 10) 0 (sv_d k_Mo_goes 6 rfl) rfl rfl ?_
  refine sv_getf (pc := 11) 15 (sv_d k_Mo_goes 7 rfl) cf12 (by decide) w1317 kd187 (ss_lt (by decide)) (lr_187_15 E _) ?_
  refine sv_iload_n (pc := 14) 1 (sv_d k_Mo_goes 8 rfl) rfl rfl ?_
  refine ss_iald (pc := 15) (n := 17) (sv_d k_Mo_goes 9 rfl) kd198 (ss_lt (by decide)) rfl ?_
  refine ss_putI (pc := 16) 24 (sv_d k_Mo_goes 10 rfl) cf12 (by decide) rfl w1326 kd187 (ss_lt (by decide)) rfl rfl (fun _ => rfl) (ss_lets (fun s2 e_s2 => ?_))
  refine sv_aload_n (pc := 19) 0 (sv_d k_Mo_goes 11 rfl) rfl rfl ?_
  refine sv_iconst (pc := 20) (v := (0 : Int32)) (sv_d k_Mo_goes 12 rfl) (by decide) ?_
  refine ss_putI (pc := 21) 25 (sv_d k_Mo_goes 13 rfl) cf12 (by decide) rfl w1327 kd187 (ss_lt (by decide)) rfl rfl (fun _ => rfl) (ss_lets (fun s3 e_s3 => ?_))
  refine sv_iconst (pc := 24) (v := (0 : Int32)) (sv_d k_Mo_goes 14 rfl) (by decide) ?_
  refine sv_istore_n (pc := 25) (lv' := [(2, .int (0 : Int32)), (0, sv_r E 187), (1, .int x1)]) (sv_d k_Mo_goes 15 rfl) rfl (by decide) rfl ?_
  exact sv_loc [1, 0] rfl (V_Mo_goes_b26 E d ss_F (0 : Int32) s3)
/-! Mo_law -/
abbrev m_Mo_law : sv_M := (yX12_law, cX12_law, 4, (some .int))
def t_Mo_law : List (Nat × Instr × Nat) := [(0, .aload_n 0, 1), (1, .iload_n 1, 1), (2, .iconst (-1), 1), (3, .iconst 5, 1), (4, .invokevirtual 251, 3), (7, .ifCond .ne 5, 3), (10, .iconst (-1), 1), (11, .ireturn, 1), (12, .aload_n 0, 1), (13, .iload_n 2, 1), (14, .invokevirtual 346, 3), (17, .ifCond .ne 6, 3), (20, .bipush (-2), 2), (22, .ireturn, 1), (23, .aload_n 0, 1), (24, .getfield 41, 3), (27, .bipush 16, 2), (29, .if_icmp .ne 6, 3), (32, .bipush (-4), 2), (34, .ireturn, 1), (35, .aload_n 0, 1), (36, .getfield 56, 3), (39, .bipush 16, 2), (41, .aload_n 0, 1), (42, .getfield 44, 3), (45, .iastore, 1), (46, .aload_n 0, 1), (47, .iconst 0, 1), (48, .putfield 44, 3), (51, .aload_n 0, 1), (52, .bipush 16, 2), (54, .invokevirtual 349, 3), (57, .ifCond .ne 11, 3), (60, .bipush (-10), 2), (62, .aload_n 0, 1), (63, .getfield 87, 3), (66, .isub, 1), (67, .ireturn, 1), (68, .aload_n 0, 1), (69, .getfield 56, 3), (72, .aload_n 0, 1), (73, .getfield 41, 3), (76, .aload_n 0, 1), (77, .getfield 56, 3), (80, .bipush 16, 2), (82, .iaload, 1), (83, .iastore, 1), (84, .iconst 0, 1), (85, .istore_n 3, 1), (86, .iload_n 3, 1), (87, .aload_n 0, 1), (88, .getfield 56, 3), (91, .bipush 16, 2), (93, .iaload, 1), (94, .if_icmp .ge 34, 3), (97, .aload_n 0, 1), (98, .getfield 53, 3), (101, .sipush 140, 3), (104, .aload_n 0, 1), (105, .getfield 41, 3), (108, .imul, 1), (109, .iload_n 3, 1), (110, .iadd, 1), (111, .aload_n 0, 1), (112, .getfield 53, 3), (115, .sipush 2240, 3), (118, .iload_n 3, 1), (119, .iadd, 1), (120, .iaload, 1), (121, .iastore, 1), (122, .iinc 3 1, 3), (125, .goto (-39), 3), (128, .aload_n 0, 1), (129, .getfield 47, 3), (132, .aload_n 0, 1), (133, .getfield 41, 3), (136, .iload_n 1, 1), (137, .iastore, 1), (138, .aload_n 0, 1), (139, .getfield 50, 3), (142, .aload_n 0, 1), (143, .getfield 41, 3), (146, .iload_n 2, 1), (147, .iastore, 1), (148, .aload_n 0, 1), (149, .dup, 1), (150, .getfield 41, 3), (153, .iconst 1, 1), (154, .iadd, 1), (155, .putfield 41, 3), (158, .aload_n 0, 1), (159, .getfield 41, 3), (162, .iconst 1, 1), (163, .isub, 1), (164, .ireturn, 1)]
theorem k_Mo_law : sv_tk m_Mo_law.2.1 t_Mo_law := by decide +kernel
theorem g_Mo_law : sv_G m_Mo_law 2 := ⟨by decide +kernel, sv_in 1593 (by decide +kernel) rfl, sv_in 103 (by decide +kernel) rfl, ⟨by decide, by decide⟩, by decide +kernel, by decide⟩
theorem in_Mo_law : Cond.instanceMethod m_Mo_law.1 ∈ sv_T := sv_in 1591 (by decide +kernel) rfl
theorem se_Mo_law : Cond.selects m_Mo_law.1.cls m_Mo_law.1 m_Mo_law.1 ∈ sv_T := sv_in 1592 (by decide +kernel) rfl
def F_Mo_law_b86 : Nat → Int32 → Int32 → Int32 → sv_S → Option (Int32 × sv_S)
  | 0 => fun _ _ _ _ => none
  | n + 1 => fun x1 x2 x3 s =>
    if sv_ib (16 : Int32) 17 = true then
      if (s.1 198 (16 : Int32).toNatClampNeg) ≤ x3 then
        if sv_ib (s.1 187 10) 16 = true then
          ss_let (ss_setI s 195 (s.1 187 10).toNatClampNeg x1) fun s7 =>
          if sv_ib (s7.1 187 10) 16 = true then
            ss_let (ss_setI s7 196 (s7.1 187 10).toNatClampNeg x2) fun s8 =>
            ss_let (ss_setI s8 187 10 ((s8.1 187 10) + (1 : Int32))) fun s9 =>
            some ((s9.1 187 10) - (1 : Int32), s9)
          else none
        else none
      else
      if sv_ib ((2240 : Int32) + x3) 2380 = true then
        if sv_ib (((140 : Int32) * (s.1 187 10)) + x3) 2380 = true then
          ss_let (ss_setI s 197 (((140 : Int32) * (s.1 187 10)) + x3).toNatClampNeg (s.1 197 ((2240 : Int32) + x3).toNatClampNeg)) fun s10 =>
          ss_let (x3 + (1 : Int32)) fun v11 =>
          F_Mo_law_b86  n x1 x2 v11 s10
        else none
      else none
    else none
theorem V_Mo_law_b86 (E : sv_E) (d : Nat) : ∀ (n : Nat) (x1 : Int32) (x2 : Int32) (x3 : Int32) (s : sv_S), sv_V E m_Mo_law (d + 7) ss_i 86 [(0, sv_r E 187), (1, .int x1), (2, .int x2), (3, .int x3)] [] (ss_e s) (F_Mo_law_b86 n x1 x2 x3 s) := by
  intro n
  induction n with
  | zero => intro x1 x2 x3 s; exact sv_none
  | succ n ih =>
    intro x1 x2 x3 s
    unfold F_Mo_law_b86
    refine sv_iload_n (pc := 86) 3 (sv_d k_Mo_law 49 rfl) rfl rfl ?_
    refine sv_aload_n (pc := 87) 0 (sv_d k_Mo_law 50 rfl) rfl rfl ?_
    refine sv_getf (pc := 88) 15 (sv_d k_Mo_law 51 rfl) cf12 (by decide) w1317 kd187 (ss_lt (by decide)) (lr_187_15 E _) ?_
    refine sv_bipush (pc := 91) (v := (16 : Int32)) (sv_d k_Mo_law 52 rfl) (by decide) ?_
    refine ss_iald (pc := 93) (n := 17) (sv_d k_Mo_law 53 rfl) kd198 (ss_lt (by decide)) rfl ?_
    refine sv_icmp_ge (pc := 94) (tgt := 128) (sv_d k_Mo_law 54 rfl) (by decide) ?_ ?_
    · refine sv_aload_n (pc := 128) 0 (sv_d k_Mo_law 72 rfl) rfl rfl ?_
      refine sv_getf (pc := 129) 12 (sv_d k_Mo_law 73 rfl) cf12 (by decide) w1314 kd187 (ss_lt (by decide)) (lr_187_12 E _) ?_
      refine sv_aload_n (pc := 132) 0 (sv_d k_Mo_law 74 rfl) rfl rfl ?_
      refine sv_getf (pc := 133) 10 (sv_d k_Mo_law 75 rfl) cf12 (by decide) w1312 kd187 (ss_lt (by decide)) rfl ?_
      refine sv_iload_n (pc := 136) 1 (sv_d k_Mo_law 76 rfl) rfl rfl ?_
      refine ss_iast (pc := 137) (n := 16) (sv_d k_Mo_law 77 rfl) kd195 (by decide) (ss_lt (by decide)) rfl (ss_lets (fun s7 e_s7 => ?_))
      refine sv_aload_n (pc := 138) 0 (sv_d k_Mo_law 78 rfl) rfl rfl ?_
      refine sv_getf (pc := 139) 13 (sv_d k_Mo_law 79 rfl) cf12 (by decide) w1315 kd187 (ss_lt (by decide)) (lr_187_13 E _) ?_
      refine sv_aload_n (pc := 142) 0 (sv_d k_Mo_law 80 rfl) rfl rfl ?_
      refine sv_getf (pc := 143) 10 (sv_d k_Mo_law 81 rfl) cf12 (by decide) w1312 kd187 (ss_lt (by decide)) rfl ?_
      refine sv_iload_n (pc := 146) 2 (sv_d k_Mo_law 82 rfl) rfl rfl ?_
      refine ss_iast (pc := 147) (n := 16) (sv_d k_Mo_law 83 rfl) kd196 (by decide) (ss_lt (by decide)) rfl (ss_lets (fun s8 e_s8 => ?_))
      refine sv_aload_n (pc := 148) 0 (sv_d k_Mo_law 84 rfl) rfl rfl ?_
      refine sv_dup (pc := 149) (sv_d k_Mo_law 85 rfl) rfl ?_
      refine sv_getf (pc := 150) 10 (sv_d k_Mo_law 86 rfl) cf12 (by decide) w1312 kd187 (ss_lt (by decide)) rfl ?_
      refine sv_iconst (pc := 153) (v := (1 : Int32)) (sv_d k_Mo_law 87 rfl) (by decide) ?_
      refine sv_iadd (pc := 154) (sv_d k_Mo_law 88 rfl) ?_
      refine ss_putI (pc := 155) 10 (sv_d k_Mo_law 89 rfl) cf12 (by decide) rfl w1312 kd187 (ss_lt (by decide)) rfl rfl (fun _ => rfl) (ss_lets (fun s9 e_s9 => ?_))
      refine sv_aload_n (pc := 158) 0 (sv_d k_Mo_law 90 rfl) rfl rfl ?_
      refine sv_getf (pc := 159) 10 (sv_d k_Mo_law 91 rfl) cf12 (by decide) w1312 kd187 (ss_lt (by decide)) rfl ?_
      refine sv_iconst (pc := 162) (v := (1 : Int32)) (sv_d k_Mo_law 92 rfl) (by decide) ?_
      refine sv_isub (pc := 163) (sv_d k_Mo_law 93 rfl) ?_
      exact sv_ret (pc := 164) (sv_d k_Mo_law 94 rfl) ⟨_, rfl, rfl⟩ rfl
    · refine sv_aload_n (pc := 97) 0 (sv_d k_Mo_law 55 rfl) rfl rfl ?_
      refine sv_getf (pc := 98) 14 (sv_d k_Mo_law 56 rfl) cf12 (by decide) w1316 kd187 (ss_lt (by decide)) (lr_187_14 E _) ?_
      refine sv_sipush (pc := 101) (v := (140 : Int32)) (sv_d k_Mo_law 57 rfl) (by decide) ?_
      refine sv_aload_n (pc := 104) 0 (sv_d k_Mo_law 58 rfl) rfl rfl ?_
      refine sv_getf (pc := 105) 10 (sv_d k_Mo_law 59 rfl) cf12 (by decide) w1312 kd187 (ss_lt (by decide)) rfl ?_
      refine sv_imul (pc := 108) (sv_d k_Mo_law 60 rfl) ?_
      refine sv_iload_n (pc := 109) 3 (sv_d k_Mo_law 61 rfl) rfl rfl ?_
      refine sv_iadd (pc := 110) (sv_d k_Mo_law 62 rfl) ?_
      refine sv_aload_n (pc := 111) 0 (sv_d k_Mo_law 63 rfl) rfl rfl ?_
      refine sv_getf (pc := 112) 14 (sv_d k_Mo_law 64 rfl) cf12 (by decide) w1316 kd187 (ss_lt (by decide)) (lr_187_14 E _) ?_
      refine sv_sipush (pc := 115) (v := (2240 : Int32)) (sv_d k_Mo_law 65 rfl) (by decide) ?_
      refine sv_iload_n (pc := 118) 3 (sv_d k_Mo_law 66 rfl) rfl rfl ?_
      refine sv_iadd (pc := 119) (sv_d k_Mo_law 67 rfl) ?_
      refine ss_iald (pc := 120) (n := 2380) (sv_d k_Mo_law 68 rfl) kd197 (ss_lt (by decide)) rfl ?_
      refine ss_iast (pc := 121) (n := 2380) (sv_d k_Mo_law 69 rfl) kd197 (by decide) (ss_lt (by decide)) rfl (ss_lets (fun s10 e_s10 => ?_))
      refine ss_letr (fun v11 e_v11 => ?_)
      refine sv_iinc (pc := 122) (v := v11) (lv' := [(3, .int v11), (0, sv_r E 187), (1, .int x1), (2, .int x2)]) (sv_d k_Mo_law 70 rfl) (n := 3) rfl (by rw [e_v11]; rfl) (by decide) rfl ?_
      refine sv_goto (pc := 125) (tgt := 86) (sv_d k_Mo_law 71 rfl) (by decide) ?_
      exact sv_loc [1, 2, 3, 0] rfl (ih x1 x2 v11 s10)
def F_Mo_law (x1 : Int32) (x2 : Int32) (s : sv_S) : Option (Int32 × sv_S) :=
  (F_Mo_in x1 (-1 : Int32) (5 : Int32) s).bind fun r1 =>
  if r1 = 0 then
    some ((-1 : Int32), s)
  else
  (F_Mo_isDay x2 s).bind fun r2 =>
  if r2 = 0 then
    some ((-2 : Int32), s)
  else
  if (s.1 187 10) = (16 : Int32) then
    some ((-4 : Int32), s)
  else
  if sv_ib (16 : Int32) 17 = true then
    ss_let (ss_setI s 198 (16 : Int32).toNatClampNeg (s.1 187 11)) fun s3 =>
    ss_let (ss_setI s3 187 11 (0 : Int32)) fun s4 =>
    (F_Mo_goes (16 : Int32) s4).bind fun r5 =>
    if r5.1 = 0 then
      some ((-10 : Int32) - (r5.2.1 187 25), r5.2)
    else
    if sv_ib (16 : Int32) 17 = true then
      if sv_ib (r5.2.1 187 10) 17 = true then
        ss_let (ss_setI r5.2 198 (r5.2.1 187 10).toNatClampNeg (r5.2.1 198 (16 : Int32).toNatClampNeg)) fun s6 =>
        F_Mo_law_b86 ss_F x1 x2 (0 : Int32) s6
      else none
    else none
  else none
theorem V_Mo_law (E : sv_E) (d : Nat) (x1 : Int32) (x2 : Int32) (s : sv_S) : sv_V E m_Mo_law (d + 7) ss_i 0 (lv_args 0 [sv_r E 187, .int x1, .int x2]) [] (ss_e s) (F_Mo_law x1 x2 s) := by
  show sv_V E m_Mo_law (d + 7) ss_i 0 [(0, sv_r E 187), (1, .int x1), (2, .int x2)] [] (ss_e s) _
  unfold F_Mo_law
  refine sv_aload_n (pc := 0) 0 (sv_d k_Mo_law 0 rfl) rfl rfl ?_
  refine sv_iload_n (pc := 1) 1 (sv_d k_Mo_law 1 rfl) rfl rfl ?_
  refine sv_iconst (pc := 2) (v := (-1 : Int32)) (sv_d k_Mo_law 2 rfl) (by decide) ?_
  refine sv_iconst (pc := 3) (v := (5 : Int32)) (sv_d k_Mo_law 3 rfl) (by decide) ?_
  refine sv_callV (pc := 4) (ψ := (ss_pi s)) (As := [.int x1, .int (-1 : Int32), .int (5 : Int32)]) (rest := []) (c := 187) (sv_d k_Mo_law 4 rfl) g_Mo_in w1545 in_Mo_in se_Mo_in cf12 kd187 (ss_lt (by decide)) rfl (Nat.le_of_ble_eq_true rfl) (V_Mo_in E (d + 6) x1 (-1 : Int32) (5 : Int32) s) (Nat.le_of_ble_eq_true rfl) rfl (fun r1 => ?_)
  show sv_V E _ _ _ 7 _ [.int r1] (ss_e s) _
  refine sv_if_ne (pc := 7) (tgt := 12) (sv_d k_Mo_law 5 rfl) (by decide) ?_ ?_
  · refine sv_aload_n (pc := 12) 0 (sv_d k_Mo_law 8 rfl) rfl rfl ?_
    refine sv_iload_n (pc := 13) 2 (sv_d k_Mo_law 9 rfl) rfl rfl ?_
    refine sv_callV (pc := 14) (ψ := (ss_pi s)) (As := [.int x2]) (rest := []) (c := 187) (sv_d k_Mo_law 10 rfl) g_Mo_isDay w1594 in_Mo_isDay se_Mo_isDay cf12 kd187 (ss_lt (by decide)) rfl (Nat.le_of_ble_eq_true rfl) (V_Mo_isDay E (d + 5) x2 s) (Nat.le_of_ble_eq_true rfl) rfl (fun r2 => ?_)
    show sv_V E _ _ _ 17 _ [.int r2] (ss_e s) _
    refine sv_if_ne (pc := 17) (tgt := 23) (sv_d k_Mo_law 11 rfl) (by decide) ?_ ?_
    · refine sv_aload_n (pc := 23) 0 (sv_d k_Mo_law 14 rfl) rfl rfl ?_
      refine sv_getf (pc := 24) 10 (sv_d k_Mo_law 15 rfl) cf12 (by decide) w1312 kd187 (ss_lt (by decide)) rfl ?_
      refine sv_bipush (pc := 27) (v := (16 : Int32)) (sv_d k_Mo_law 16 rfl) (by decide) ?_
      refine sv_icmp_ne (pc := 29) (tgt := 35) (sv_d k_Mo_law 17 rfl) (by decide) ?_ ?_
      · refine sv_aload_n (pc := 35) 0 (sv_d k_Mo_law 20 rfl) rfl rfl ?_
        refine sv_getf (pc := 36) 15 (sv_d k_Mo_law 21 rfl) cf12 (by decide) w1317 kd187 (ss_lt (by decide)) (lr_187_15 E _) ?_
        refine sv_bipush (pc := 39) (v := (16 : Int32)) (sv_d k_Mo_law 22 rfl) (by decide) ?_
        refine sv_aload_n (pc := 41) 0 (sv_d k_Mo_law 23 rfl) rfl rfl ?_
        refine sv_getf (pc := 42) 11 (sv_d k_Mo_law 24 rfl) cf12 (by decide) w1313 kd187 (ss_lt (by decide)) rfl ?_
        refine ss_iast (pc := 45) (n := 17) (sv_d k_Mo_law 25 rfl) kd198 (by decide) (ss_lt (by decide)) rfl (ss_lets (fun s3 e_s3 => ?_))
        refine sv_aload_n (pc := 46) 0 (sv_d k_Mo_law 26 rfl) rfl rfl ?_
        refine sv_iconst (pc := 47) (v := (0 : Int32)) (sv_d k_Mo_law 27 rfl) (by decide) ?_
        refine ss_putI (pc := 48) 11 (sv_d k_Mo_law 28 rfl) cf12 (by decide) rfl w1313 kd187 (ss_lt (by decide)) rfl rfl (fun _ => rfl) (ss_lets (fun s4 e_s4 => ?_))
        refine sv_aload_n (pc := 51) 0 (sv_d k_Mo_law 29 rfl) rfl rfl ?_
        refine sv_bipush (pc := 52) (v := (16 : Int32)) (sv_d k_Mo_law 30 rfl) (by decide) ?_
        refine sv_callV (pc := 54) (ψ := ss_i) (As := [.int (16 : Int32)]) (rest := []) (c := 187) (sv_d k_Mo_law 31 rfl) g_Mo_goes w1598 in_Mo_goes se_Mo_goes cf12 kd187 (ss_lt (by decide)) rfl (Nat.le_of_ble_eq_true rfl) (V_Mo_goes E (d + 0) (16 : Int32) s4) (Nat.le_of_ble_eq_true rfl) rfl (fun r5 => ?_)
        show sv_V E _ _ _ 57 _ [.int r5.1] (ss_e r5.2) _
        refine sv_if_ne (pc := 57) (tgt := 68) (sv_d k_Mo_law 32 rfl) (by decide) ?_ ?_
        · refine sv_aload_n (pc := 68) 0 (sv_d k_Mo_law 38 rfl) rfl rfl ?_
          refine sv_getf (pc := 69) 15 (sv_d k_Mo_law 39 rfl) cf12 (by decide) w1317 kd187 (ss_lt (by decide)) (lr_187_15 E _) ?_
          refine sv_aload_n (pc := 72) 0 (sv_d k_Mo_law 40 rfl) rfl rfl ?_
          refine sv_getf (pc := 73) 10 (sv_d k_Mo_law 41 rfl) cf12 (by decide) w1312 kd187 (ss_lt (by decide)) rfl ?_
          refine sv_aload_n (pc := 76) 0 (sv_d k_Mo_law 42 rfl) rfl rfl ?_
          refine sv_getf (pc := 77) 15 (sv_d k_Mo_law 43 rfl) cf12 (by decide) w1317 kd187 (ss_lt (by decide)) (lr_187_15 E _) ?_
          refine sv_bipush (pc := 80) (v := (16 : Int32)) (sv_d k_Mo_law 44 rfl) (by decide) ?_
          refine ss_iald (pc := 82) (n := 17) (sv_d k_Mo_law 45 rfl) kd198 (ss_lt (by decide)) rfl ?_
          refine ss_iast (pc := 83) (n := 17) (sv_d k_Mo_law 46 rfl) kd198 (by decide) (ss_lt (by decide)) rfl (ss_lets (fun s6 e_s6 => ?_))
          refine sv_iconst (pc := 84) (v := (0 : Int32)) (sv_d k_Mo_law 47 rfl) (by decide) ?_
          refine sv_istore_n (pc := 85) (lv' := [(3, .int (0 : Int32)), (0, sv_r E 187), (1, .int x1), (2, .int x2)]) (sv_d k_Mo_law 48 rfl) rfl (by decide) rfl ?_
          exact sv_loc [1, 2, 3, 0] rfl (V_Mo_law_b86 E d ss_F x1 x2 (0 : Int32) s6)
        · refine sv_bipush (pc := 60) (v := (-10 : Int32)) (sv_d k_Mo_law 33 rfl) (by decide) ?_
          refine sv_aload_n (pc := 62) 0 (sv_d k_Mo_law 34 rfl) rfl rfl ?_
          refine sv_getf (pc := 63) 25 (sv_d k_Mo_law 35 rfl) cf12 (by decide) w1327 kd187 (ss_lt (by decide)) rfl ?_
          refine sv_isub (pc := 66) (sv_d k_Mo_law 36 rfl) ?_
          exact sv_ret (pc := 67) (sv_d k_Mo_law 37 rfl) ⟨_, rfl, rfl⟩ rfl
      · refine sv_bipush (pc := 32) (v := (-4 : Int32)) (sv_d k_Mo_law 18 rfl) (by decide) ?_
        exact sv_ret (pc := 34) (sv_d k_Mo_law 19 rfl) ⟨_, rfl, rfl⟩ rfl
    · refine sv_bipush (pc := 20) (v := (-2 : Int32)) (sv_d k_Mo_law 12 rfl) (by decide) ?_
      exact sv_ret (pc := 22) (sv_d k_Mo_law 13 rfl) ⟨_, rfl, rfl⟩ rfl
  · refine sv_iconst (pc := 10) (v := (-1 : Int32)) (sv_d k_Mo_law 6 rfl) (by decide) ?_
    exact sv_ret (pc := 11) (sv_d k_Mo_law 7 rfl) ⟨_, rfl, rfl⟩ rfl
/-! Mo_clean -/
abbrev m_Mo_clean : sv_M := (yX12_clean, cX12_clean, 2, none)
def t_Mo_clean : List (Nat × Instr × Nat) := [(0, .iconst 0, 1), (1, .istore_n 1, 1), (2, .iload_n 1, 1), (3, .bipush 20, 2), (5, .if_icmp .ge 19, 3), (8, .aload_n 0, 1), (9, .getfield 59, 3), (12, .iload_n 1, 1), (13, .iload_n 1, 1), (14, .bipush 10, 2), (16, .irem, 1), (17, .iastore, 1), (18, .iinc 1 1, 3), (21, .goto (-19), 3), (24, .iconst 0, 1), (25, .istore_n 1, 1), (26, .iload_n 1, 1), (27, .bipush 10, 2), (29, .if_icmp .ge 18, 3), (32, .aload_n 0, 1), (33, .getfield 62, 3), (36, .iload_n 1, 1), (37, .sipush 9999, 3), (40, .iastore, 1), (41, .iinc 1 1, 3), (44, .goto (-18), 3), (47, .aload_n 0, 1), (48, .getfield 65, 3), (51, .iconst 0, 1), (52, .iconst 0, 1), (53, .iastore, 1), (54, .aload_n 0, 1), (55, .getfield 65, 3), (58, .iconst 1, 1), (59, .iconst 1, 1), (60, .iastore, 1), (61, .aload_n 0, 1), (62, .getfield 65, 3), (65, .iconst 2, 1), (66, .iconst 0, 1), (67, .iastore, 1), (68, .aload_n 0, 1), (69, .getfield 65, 3), (72, .iconst 3, 1), (73, .sipush 365, 3), (76, .iastore, 1), (77, .aload_n 0, 1), (78, .getfield 65, 3), (81, .iconst 4, 1), (82, .iconst 0, 1), (83, .iastore, 1), (84, .aload_n 0, 1), (85, .iconst 0, 1), (86, .putfield 68, 3), (89, .aload_n 0, 1), (90, .iconst 1, 1), (91, .putfield 72, 3), (94, .aload_n 0, 1), (95, .iconst 0, 1), (96, .putfield 75, 3), (99, .return_, 1)]
theorem k_Mo_clean : sv_tk m_Mo_clean.2.1 t_Mo_clean := by decide +kernel
theorem g_Mo_clean : sv_G m_Mo_clean 0 := ⟨by decide +kernel, sv_in 1677 (by decide +kernel) rfl, sv_in 103 (by decide +kernel) rfl, ⟨by decide, by decide⟩, by decide +kernel, by decide⟩
theorem in_Mo_clean : Cond.instanceMethod m_Mo_clean.1 ∈ sv_T := sv_in 1676 (by decide +kernel) rfl
theorem se_Mo_clean : Cond.selects m_Mo_clean.1.cls m_Mo_clean.1 m_Mo_clean.1 ∈ sv_T := sv_in 57 (by decide +kernel) rfl
def F_Mo_clean_b26 : Nat → Int32 → sv_S → Option (sv_S)
  | 0 => fun _ _ => none
  | n + 1 => fun x1 s =>
    if (10 : Int32) ≤ x1 then
      if sv_ib (0 : Int32) 5 = true then
        ss_let (ss_setI s 201 (0 : Int32).toNatClampNeg (0 : Int32)) fun s1 =>
        if sv_ib (1 : Int32) 5 = true then
          ss_let (ss_setI s1 201 (1 : Int32).toNatClampNeg (1 : Int32)) fun s2 =>
          if sv_ib (2 : Int32) 5 = true then
            ss_let (ss_setI s2 201 (2 : Int32).toNatClampNeg (0 : Int32)) fun s3 =>
            if sv_ib (3 : Int32) 5 = true then
              ss_let (ss_setI s3 201 (3 : Int32).toNatClampNeg (365 : Int32)) fun s4 =>
              if sv_ib (4 : Int32) 5 = true then
                ss_let (ss_setI s4 201 (4 : Int32).toNatClampNeg (0 : Int32)) fun s5 =>
                ss_let (ss_setI s5 187 19 (0 : Int32)) fun s6 =>
                ss_let (ss_setI s6 187 20 (1 : Int32)) fun s7 =>
                ss_let (ss_setI s7 187 21 (0 : Int32)) fun s8 =>
                some s8
              else none
            else none
          else none
        else none
      else none
    else
    if sv_ib x1 10 = true then
      ss_let (ss_setI s 200 x1.toNatClampNeg (9999 : Int32)) fun s9 =>
      ss_let (x1 + (1 : Int32)) fun v10 =>
      F_Mo_clean_b26  n v10 s9
    else none
theorem V_Mo_clean_b26 (E : sv_E) (d : Nat) : ∀ (n : Nat) (x1 : Int32) (s : sv_S), sv_V E m_Mo_clean (d + 0) ss_v 26 [(0, sv_r E 187), (1, .int x1)] [] (ss_e s) (F_Mo_clean_b26 n x1 s) := by
  intro n
  induction n with
  | zero => intro x1 s; exact sv_none
  | succ n ih =>
    intro x1 s
    unfold F_Mo_clean_b26
    refine sv_iload_n (pc := 26) 1 (sv_d k_Mo_clean 16 rfl) rfl rfl ?_
    refine sv_bipush (pc := 27) (v := (10 : Int32)) (sv_d k_Mo_clean 17 rfl) (by decide) ?_
    refine sv_icmp_ge (pc := 29) (tgt := 47) (sv_d k_Mo_clean 18 rfl) (by decide) ?_ ?_
    · refine sv_aload_n (pc := 47) 0 (sv_d k_Mo_clean 26 rfl) rfl rfl ?_
      refine sv_getf (pc := 48) 18 (sv_d k_Mo_clean 27 rfl) cf12 (by decide) w1320 kd187 (ss_lt (by decide)) (lr_187_18 E _) ?_
      refine sv_iconst (pc := 51) (v := (0 : Int32)) (sv_d k_Mo_clean 28 rfl) (by decide) ?_
      refine sv_iconst (pc := 52) (v := (0 : Int32)) (sv_d k_Mo_clean 29 rfl) (by decide) ?_
      refine ss_iast (pc := 53) (n := 5) (sv_d k_Mo_clean 30 rfl) kd201 (by decide) (ss_lt (by decide)) rfl (ss_lets (fun s1 e_s1 => ?_))
      refine sv_aload_n (pc := 54) 0 (sv_d k_Mo_clean 31 rfl) rfl rfl ?_
      refine sv_getf (pc := 55) 18 (sv_d k_Mo_clean 32 rfl) cf12 (by decide) w1320 kd187 (ss_lt (by decide)) (lr_187_18 E _) ?_
      refine sv_iconst (pc := 58) (v := (1 : Int32)) (sv_d k_Mo_clean 33 rfl) (by decide) ?_
      refine sv_iconst (pc := 59) (v := (1 : Int32)) (sv_d k_Mo_clean 34 rfl) (by decide) ?_
      refine ss_iast (pc := 60) (n := 5) (sv_d k_Mo_clean 35 rfl) kd201 (by decide) (ss_lt (by decide)) rfl (ss_lets (fun s2 e_s2 => ?_))
      refine sv_aload_n (pc := 61) 0 (sv_d k_Mo_clean 36 rfl) rfl rfl ?_
      refine sv_getf (pc := 62) 18 (sv_d k_Mo_clean 37 rfl) cf12 (by decide) w1320 kd187 (ss_lt (by decide)) (lr_187_18 E _) ?_
      refine sv_iconst (pc := 65) (v := (2 : Int32)) (sv_d k_Mo_clean 38 rfl) (by decide) ?_
      refine sv_iconst (pc := 66) (v := (0 : Int32)) (sv_d k_Mo_clean 39 rfl) (by decide) ?_
      refine ss_iast (pc := 67) (n := 5) (sv_d k_Mo_clean 40 rfl) kd201 (by decide) (ss_lt (by decide)) rfl (ss_lets (fun s3 e_s3 => ?_))
      refine sv_aload_n (pc := 68) 0 (sv_d k_Mo_clean 41 rfl) rfl rfl ?_
      refine sv_getf (pc := 69) 18 (sv_d k_Mo_clean 42 rfl) cf12 (by decide) w1320 kd187 (ss_lt (by decide)) (lr_187_18 E _) ?_
      refine sv_iconst (pc := 72) (v := (3 : Int32)) (sv_d k_Mo_clean 43 rfl) (by decide) ?_
      refine sv_sipush (pc := 73) (v := (365 : Int32)) (sv_d k_Mo_clean 44 rfl) (by decide) ?_
      refine ss_iast (pc := 76) (n := 5) (sv_d k_Mo_clean 45 rfl) kd201 (by decide) (ss_lt (by decide)) rfl (ss_lets (fun s4 e_s4 => ?_))
      refine sv_aload_n (pc := 77) 0 (sv_d k_Mo_clean 46 rfl) rfl rfl ?_
      refine sv_getf (pc := 78) 18 (sv_d k_Mo_clean 47 rfl) cf12 (by decide) w1320 kd187 (ss_lt (by decide)) (lr_187_18 E _) ?_
      refine sv_iconst (pc := 81) (v := (4 : Int32)) (sv_d k_Mo_clean 48 rfl) (by decide) ?_
      refine sv_iconst (pc := 82) (v := (0 : Int32)) (sv_d k_Mo_clean 49 rfl) (by decide) ?_
      refine ss_iast (pc := 83) (n := 5) (sv_d k_Mo_clean 50 rfl) kd201 (by decide) (ss_lt (by decide)) rfl (ss_lets (fun s5 e_s5 => ?_))
      refine sv_aload_n (pc := 84) 0 (sv_d k_Mo_clean 51 rfl) rfl rfl ?_
      refine sv_iconst (pc := 85) (v := (0 : Int32)) (sv_d k_Mo_clean 52 rfl) (by decide) ?_
      refine ss_putI (pc := 86) 19 (sv_d k_Mo_clean 53 rfl) cf12 (by decide) rfl w1321 kd187 (ss_lt (by decide)) rfl rfl (fun _ => rfl) (ss_lets (fun s6 e_s6 => ?_))
      refine sv_aload_n (pc := 89) 0 (sv_d k_Mo_clean 54 rfl) rfl rfl ?_
      refine sv_iconst (pc := 90) (v := (1 : Int32)) (sv_d k_Mo_clean 55 rfl) (by decide) ?_
      refine ss_putI (pc := 91) 20 (sv_d k_Mo_clean 56 rfl) cf12 (by decide) rfl w1322 kd187 (ss_lt (by decide)) rfl rfl (fun _ => rfl) (ss_lets (fun s7 e_s7 => ?_))
      refine sv_aload_n (pc := 94) 0 (sv_d k_Mo_clean 57 rfl) rfl rfl ?_
      refine sv_iconst (pc := 95) (v := (0 : Int32)) (sv_d k_Mo_clean 58 rfl) (by decide) ?_
      refine ss_putI (pc := 96) 21 (sv_d k_Mo_clean 59 rfl) cf12 (by decide) rfl w1323 kd187 (ss_lt (by decide)) rfl rfl (fun _ => rfl) (ss_lets (fun s8 e_s8 => ?_))
      exact sv_retv (pc := 99) (sv_d k_Mo_clean 60 rfl) rfl rfl
    · refine sv_aload_n (pc := 32) 0 (sv_d k_Mo_clean 19 rfl) rfl rfl ?_
      refine sv_getf (pc := 33) 17 (sv_d k_Mo_clean 20 rfl) cf12 (by decide) w1319 kd187 (ss_lt (by decide)) (lr_187_17 E _) ?_
      refine sv_iload_n (pc := 36) 1 (sv_d k_Mo_clean 21 rfl) rfl rfl ?_
      refine sv_sipush (pc := 37) (v := (9999 : Int32)) (sv_d k_Mo_clean 22 rfl) (by decide) ?_
      refine ss_iast (pc := 40) (n := 10) (sv_d k_Mo_clean 23 rfl) kd200 (by decide) (ss_lt (by decide)) rfl (ss_lets (fun s9 e_s9 => ?_))
      refine ss_letr (fun v10 e_v10 => ?_)
      refine sv_iinc (pc := 41) (v := v10) (lv' := [(1, .int v10), (0, sv_r E 187)]) (sv_d k_Mo_clean 24 rfl) (n := 1) rfl (by rw [e_v10]; rfl) (by decide) rfl ?_
      refine sv_goto (pc := 44) (tgt := 26) (sv_d k_Mo_clean 25 rfl) (by decide) ?_
      exact sv_loc [1, 0] rfl (ih v10 s9)
def F_Mo_clean_b2 : Nat → Int32 → sv_S → Option (sv_S)
  | 0 => fun _ _ => none
  | n + 1 => fun x1 s =>
    if (20 : Int32) ≤ x1 then
      F_Mo_clean_b26 ss_F (0 : Int32) s
    else
    if sv_ib x1 20 = true then
      ss_let (ss_setI s 199 x1.toNatClampNeg (x1 - x1 / (10 : Int32) * (10 : Int32))) fun s11 =>
      ss_let (x1 + (1 : Int32)) fun v12 =>
      F_Mo_clean_b2  n v12 s11
    else none
theorem V_Mo_clean_b2 (E : sv_E) (d : Nat) : ∀ (n : Nat) (x1 : Int32) (s : sv_S), sv_V E m_Mo_clean (d + 0) ss_v 2 [(0, sv_r E 187), (1, .int x1)] [] (ss_e s) (F_Mo_clean_b2 n x1 s) := by
  intro n
  induction n with
  | zero => intro x1 s; exact sv_none
  | succ n ih =>
    intro x1 s
    unfold F_Mo_clean_b2
    refine sv_iload_n (pc := 2) 1 (sv_d k_Mo_clean 2 rfl) rfl rfl ?_
    refine sv_bipush (pc := 3) (v := (20 : Int32)) (sv_d k_Mo_clean 3 rfl) (by decide) ?_
    refine sv_icmp_ge (pc := 5) (tgt := 24) (sv_d k_Mo_clean 4 rfl) (by decide) ?_ ?_
    · refine sv_iconst (pc := 24) (v := (0 : Int32)) (sv_d k_Mo_clean 14 rfl) (by decide) ?_
      refine sv_istore_n (pc := 25) (lv' := [(1, .int (0 : Int32)), (0, sv_r E 187)]) (sv_d k_Mo_clean 15 rfl) rfl (by decide) rfl ?_
      exact sv_loc [1, 0] rfl (V_Mo_clean_b26 E d ss_F (0 : Int32) s)
    · refine sv_aload_n (pc := 8) 0 (sv_d k_Mo_clean 5 rfl) rfl rfl ?_
      refine sv_getf (pc := 9) 16 (sv_d k_Mo_clean 6 rfl) cf12 (by decide) w1318 kd187 (ss_lt (by decide)) (lr_187_16 E _) ?_
      refine sv_iload_n (pc := 12) 1 (sv_d k_Mo_clean 7 rfl) rfl rfl ?_
      refine sv_iload_n (pc := 13) 1 (sv_d k_Mo_clean 8 rfl) rfl rfl ?_
      refine sv_bipush (pc := 14) (v := (10 : Int32)) (sv_d k_Mo_clean 9 rfl) (by decide) ?_
      refine sv_iremK (pc := 16) (sv_d k_Mo_clean 10 rfl) (by decide) ?_
      refine ss_iast (pc := 17) (n := 20) (sv_d k_Mo_clean 11 rfl) kd199 (by decide) (ss_lt (by decide)) rfl (ss_lets (fun s11 e_s11 => ?_))
      refine ss_letr (fun v12 e_v12 => ?_)
      refine sv_iinc (pc := 18) (v := v12) (lv' := [(1, .int v12), (0, sv_r E 187)]) (sv_d k_Mo_clean 12 rfl) (n := 1) rfl (by rw [e_v12]; rfl) (by decide) rfl ?_
      refine sv_goto (pc := 21) (tgt := 2) (sv_d k_Mo_clean 13 rfl) (by decide) ?_
      exact sv_loc [1, 0] rfl (ih v12 s11)
def F_Mo_clean (s : sv_S) : Option (sv_S) :=
  F_Mo_clean_b2 ss_F (0 : Int32) s
theorem V_Mo_clean (E : sv_E) (d : Nat) (s : sv_S) : sv_V E m_Mo_clean (d + 0) ss_v 0 (lv_args 0 [sv_r E 187]) [] (ss_e s) (F_Mo_clean s) := by
  show sv_V E m_Mo_clean (d + 0) ss_v 0 [(0, sv_r E 187)] [] (ss_e s) _
  unfold F_Mo_clean
  refine sv_iconst (pc := 0) (v := (0 : Int32)) (sv_d k_Mo_clean 0 rfl) (by decide) ?_
  refine sv_istore_n (pc := 1) (lv' := [(1, .int (0 : Int32)), (0, sv_r E 187)]) (sv_d k_Mo_clean 1 rfl) rfl (by decide) rfl ?_
  exact sv_loc [1, 0] rfl (V_Mo_clean_b2 E d ss_F (0 : Int32) s)
/-! Mo_lawOn -/
abbrev m_Mo_lawOn : sv_M := (yX12_lawOn, cX12_lawOn, 5, (some .int))
def t_Mo_lawOn : List (Nat × Instr × Nat) := [(0, .iconst (-1), 1), (1, .istore_n 3, 1), (2, .iconst 0, 1), (3, .istore 4, 2), (5, .iload 4, 2), (7, .aload_n 0, 1), (8, .getfield 41, 3), (11, .if_icmp .ge 54, 3), (14, .aload_n 0, 1), (15, .getfield 47, 3), (18, .iload 4, 2), (20, .iaload, 1), (21, .iload_n 1, 1), (22, .if_icmp .ne 37, 3), (25, .aload_n 0, 1), (26, .getfield 50, 3), (29, .iload 4, 2), (31, .iaload, 1), (32, .iload_n 2, 1), (33, .if_icmp .gt 26, 3), (36, .iload_n 3, 1), (37, .ifCond .lt 19, 3), (40, .aload_n 0, 1), (41, .getfield 50, 3), (44, .iload 4, 2), (46, .iaload, 1), (47, .aload_n 0, 1), (48, .getfield 50, 3), (51, .iload_n 3, 1), (52, .iaload, 1), (53, .if_icmp .lt 6, 3), (56, .iload 4, 2), (58, .istore_n 3, 1), (59, .iinc 4 1, 3), (62, .goto (-57), 3), (65, .iload_n 3, 1), (66, .ireturn, 1)]
theorem k_Mo_lawOn : sv_tk m_Mo_lawOn.2.1 t_Mo_lawOn := by decide +kernel
theorem g_Mo_lawOn : sv_G m_Mo_lawOn 2 := ⟨by decide +kernel, sv_in 1681 (by decide +kernel) rfl, sv_in 103 (by decide +kernel) rfl, ⟨by decide, by decide⟩, by decide +kernel, by decide⟩
theorem in_Mo_lawOn : Cond.instanceMethod m_Mo_lawOn.1 ∈ sv_T := sv_in 1680 (by decide +kernel) rfl
theorem se_Mo_lawOn : Cond.selects m_Mo_lawOn.1.cls m_Mo_lawOn.1 m_Mo_lawOn.1 ∈ sv_T := sv_in 58 (by decide +kernel) rfl
def F_Mo_lawOn_b59 (s : sv_S) (kc5 : Int32 → Int32 → Int32 → Int32 → Option (Int32)) (x1 : Int32) (x2 : Int32) (x3 : Int32) (x4 : Int32) : Option (Int32) :=
  ss_let (x4 + (1 : Int32)) fun v1 =>
  kc5 x1 x2 x3 v1
theorem V_Mo_lawOn_b59 (E : sv_E) (d : Nat) (s : sv_S) (kc5 : Int32 → Int32 → Int32 → Int32 → Option (Int32)) (hc5 : ∀ (x1 : Int32) (x2 : Int32) (x3 : Int32) (x4 : Int32), sv_V E m_Mo_lawOn (d + 0) (ss_pi s) 5 [(0, sv_r E 187), (1, .int x1), (2, .int x2), (3, .int x3), (4, .int x4)] [] (ss_e s) (kc5 x1 x2 x3 x4)) (x1 : Int32) (x2 : Int32) (x3 : Int32) (x4 : Int32) : sv_V E m_Mo_lawOn (d + 0) (ss_pi s) 59 [(0, sv_r E 187), (1, .int x1), (2, .int x2), (3, .int x3), (4, .int x4)] [] (ss_e s) (F_Mo_lawOn_b59 s kc5 x1 x2 x3 x4) := by
  unfold F_Mo_lawOn_b59
  refine ss_letr (fun v1 e_v1 => ?_)
  refine sv_iinc (pc := 59) (v := v1) (lv' := [(4, .int v1), (0, sv_r E 187), (1, .int x1), (2, .int x2), (3, .int x3)]) (sv_d k_Mo_lawOn 33 rfl) (n := 4) rfl (by rw [e_v1]; rfl) (by decide) rfl ?_
  refine sv_goto (pc := 62) (tgt := 5) (sv_d k_Mo_lawOn 34 rfl) (by decide) ?_
  exact sv_loc [1, 2, 3, 4, 0] rfl (hc5 x1 x2 x3 v1)
def F_Mo_lawOn_b56 (s : sv_S) (kc5 : Int32 → Int32 → Int32 → Int32 → Option (Int32)) (x1 : Int32) (x2 : Int32) (x4 : Int32) : Option (Int32) :=
  F_Mo_lawOn_b59 s kc5 x1 x2 x4 x4
theorem V_Mo_lawOn_b56 (E : sv_E) (d : Nat) (s : sv_S) (kc5 : Int32 → Int32 → Int32 → Int32 → Option (Int32)) (hc5 : ∀ (x1 : Int32) (x2 : Int32) (x3 : Int32) (x4 : Int32), sv_V E m_Mo_lawOn (d + 0) (ss_pi s) 5 [(0, sv_r E 187), (1, .int x1), (2, .int x2), (3, .int x3), (4, .int x4)] [] (ss_e s) (kc5 x1 x2 x3 x4)) (x1 : Int32) (x2 : Int32) (x4 : Int32) : sv_V E m_Mo_lawOn (d + 0) (ss_pi s) 56 [(0, sv_r E 187), (1, .int x1), (2, .int x2), (4, .int x4)] [] (ss_e s) (F_Mo_lawOn_b56 s kc5 x1 x2 x4) := by
  unfold F_Mo_lawOn_b56
  refine sv_iload (pc := 56) 3 (sv_d k_Mo_lawOn 31 rfl) rfl ?_
  refine sv_istore_n (pc := 58) (lv' := [(3, .int x4), (0, sv_r E 187), (1, .int x1), (2, .int x2), (4, .int x4)]) (sv_d k_Mo_lawOn 32 rfl) rfl (by decide) rfl ?_
  exact sv_loc [1, 2, 3, 0, 4] rfl (V_Mo_lawOn_b59 E d s kc5 hc5 x1 x2 x4 x4)
def F_Mo_lawOn_b5 (s : sv_S) : Nat → Int32 → Int32 → Int32 → Int32 → Option (Int32)
  | 0 => fun _ _ _ _ => none
  | n + 1 => fun x1 x2 x3 x4 =>
    if (s.1 187 10) ≤ x4 then
      some x3
    else
    if sv_ib x4 16 = true then
      if (s.1 195 x4.toNatClampNeg) = x1 then
        if sv_ib x4 16 = true then
          if x2 < (s.1 196 x4.toNatClampNeg) then
            F_Mo_lawOn_b59 s (F_Mo_lawOn_b5 s n) x1 x2 x3 x4
          else
          if x3 < 0 then
            F_Mo_lawOn_b56 s (F_Mo_lawOn_b5 s n) x1 x2 x4
          else
          if sv_ib x4 16 = true then
            if sv_ib x3 16 = true then
              if (s.1 196 x4.toNatClampNeg) < (s.1 196 x3.toNatClampNeg) then
                F_Mo_lawOn_b59 s (F_Mo_lawOn_b5 s n) x1 x2 x3 x4
              else
              F_Mo_lawOn_b56 s (F_Mo_lawOn_b5 s n) x1 x2 x4
            else none
          else none
        else none
      else
      F_Mo_lawOn_b59 s (F_Mo_lawOn_b5 s n) x1 x2 x3 x4
    else none
theorem V_Mo_lawOn_b5 (E : sv_E) (d : Nat) (s : sv_S) : ∀ (n : Nat) (x1 : Int32) (x2 : Int32) (x3 : Int32) (x4 : Int32), sv_V E m_Mo_lawOn (d + 0) (ss_pi s) 5 [(0, sv_r E 187), (1, .int x1), (2, .int x2), (3, .int x3), (4, .int x4)] [] (ss_e s) (F_Mo_lawOn_b5 s n x1 x2 x3 x4) := by
  intro n
  induction n with
  | zero => intro x1 x2 x3 x4; exact sv_none
  | succ n ih =>
    intro x1 x2 x3 x4
    unfold F_Mo_lawOn_b5
    refine sv_iload (pc := 5) 4 (sv_d k_Mo_lawOn 4 rfl) rfl ?_
    refine sv_aload_n (pc := 7) 0 (sv_d k_Mo_lawOn 5 rfl) rfl rfl ?_
    refine sv_getf (pc := 8) 10 (sv_d k_Mo_lawOn 6 rfl) cf12 (by decide) w1312 kd187 (ss_lt (by decide)) rfl ?_
    refine sv_icmp_ge (pc := 11) (tgt := 65) (sv_d k_Mo_lawOn 7 rfl) (by decide) ?_ ?_
    · refine sv_iload_n (pc := 65) 3 (sv_d k_Mo_lawOn 35 rfl) rfl rfl ?_
      exact sv_ret (pc := 66) (sv_d k_Mo_lawOn 36 rfl) ⟨_, rfl, rfl⟩ rfl
    · refine sv_aload_n (pc := 14) 0 (sv_d k_Mo_lawOn 8 rfl) rfl rfl ?_
      refine sv_getf (pc := 15) 12 (sv_d k_Mo_lawOn 9 rfl) cf12 (by decide) w1314 kd187 (ss_lt (by decide)) (lr_187_12 E _) ?_
      refine sv_iload (pc := 18) 4 (sv_d k_Mo_lawOn 10 rfl) rfl ?_
      refine ss_iald (pc := 20) (n := 16) (sv_d k_Mo_lawOn 11 rfl) kd195 (ss_lt (by decide)) rfl ?_
      refine sv_iload_n (pc := 21) 1 (sv_d k_Mo_lawOn 12 rfl) rfl rfl ?_
      refine sv_icmp_ne (pc := 22) (tgt := 59) (sv_d k_Mo_lawOn 13 rfl) (by decide) ?_ ?_
      · exact sv_loc [0, 1, 2, 3, 4] rfl (V_Mo_lawOn_b59 E d s (F_Mo_lawOn_b5 s n) ih x1 x2 x3 x4)
      · refine sv_aload_n (pc := 25) 0 (sv_d k_Mo_lawOn 14 rfl) rfl rfl ?_
        refine sv_getf (pc := 26) 13 (sv_d k_Mo_lawOn 15 rfl) cf12 (by decide) w1315 kd187 (ss_lt (by decide)) (lr_187_13 E _) ?_
        refine sv_iload (pc := 29) 4 (sv_d k_Mo_lawOn 16 rfl) rfl ?_
        refine ss_iald (pc := 31) (n := 16) (sv_d k_Mo_lawOn 17 rfl) kd196 (ss_lt (by decide)) rfl ?_
        refine sv_iload_n (pc := 32) 2 (sv_d k_Mo_lawOn 18 rfl) rfl rfl ?_
        refine sv_icmp_gt (pc := 33) (tgt := 59) (sv_d k_Mo_lawOn 19 rfl) (by decide) ?_ ?_
        · exact sv_loc [0, 1, 2, 3, 4] rfl (V_Mo_lawOn_b59 E d s (F_Mo_lawOn_b5 s n) ih x1 x2 x3 x4)
        · refine sv_iload_n (pc := 36) 3 (sv_d k_Mo_lawOn 20 rfl) rfl rfl ?_
          refine sv_if_lt (pc := 37) (tgt := 56) (sv_d k_Mo_lawOn 21 rfl) (by decide) ?_ ?_
          · exact sv_loc [0, 1, 2, 4] rfl (V_Mo_lawOn_b56 E d s (F_Mo_lawOn_b5 s n) ih x1 x2 x4)
          · refine sv_aload_n (pc := 40) 0 (sv_d k_Mo_lawOn 22 rfl) rfl rfl ?_
            refine sv_getf (pc := 41) 13 (sv_d k_Mo_lawOn 23 rfl) cf12 (by decide) w1315 kd187 (ss_lt (by decide)) (lr_187_13 E _) ?_
            refine sv_iload (pc := 44) 4 (sv_d k_Mo_lawOn 24 rfl) rfl ?_
            refine ss_iald (pc := 46) (n := 16) (sv_d k_Mo_lawOn 25 rfl) kd196 (ss_lt (by decide)) rfl ?_
            refine sv_aload_n (pc := 47) 0 (sv_d k_Mo_lawOn 26 rfl) rfl rfl ?_
            refine sv_getf (pc := 48) 13 (sv_d k_Mo_lawOn 27 rfl) cf12 (by decide) w1315 kd187 (ss_lt (by decide)) (lr_187_13 E _) ?_
            refine sv_iload_n (pc := 51) 3 (sv_d k_Mo_lawOn 28 rfl) rfl rfl ?_
            refine ss_iald (pc := 52) (n := 16) (sv_d k_Mo_lawOn 29 rfl) kd196 (ss_lt (by decide)) rfl ?_
            refine sv_icmp_lt (pc := 53) (tgt := 59) (sv_d k_Mo_lawOn 30 rfl) (by decide) ?_ ?_
            · exact sv_loc [0, 1, 2, 3, 4] rfl (V_Mo_lawOn_b59 E d s (F_Mo_lawOn_b5 s n) ih x1 x2 x3 x4)
            · exact sv_loc [0, 1, 2, 4] rfl (V_Mo_lawOn_b56 E d s (F_Mo_lawOn_b5 s n) ih x1 x2 x4)
def F_Mo_lawOn (x1 : Int32) (x2 : Int32) (s : sv_S) : Option (Int32) :=
  F_Mo_lawOn_b5 s ss_F x1 x2 (-1 : Int32) (0 : Int32)
theorem V_Mo_lawOn (E : sv_E) (d : Nat) (x1 : Int32) (x2 : Int32) (s : sv_S) : sv_V E m_Mo_lawOn (d + 0) (ss_pi s) 0 (lv_args 0 [sv_r E 187, .int x1, .int x2]) [] (ss_e s) (F_Mo_lawOn x1 x2 s) := by
  show sv_V E m_Mo_lawOn (d + 0) (ss_pi s) 0 [(0, sv_r E 187), (1, .int x1), (2, .int x2)] [] (ss_e s) _
  unfold F_Mo_lawOn
  refine sv_iconst (pc := 0) (v := (-1 : Int32)) (sv_d k_Mo_lawOn 0 rfl) (by decide) ?_
  refine sv_istore_n (pc := 1) (lv' := [(3, .int (-1 : Int32)), (0, sv_r E 187), (1, .int x1), (2, .int x2)]) (sv_d k_Mo_lawOn 1 rfl) rfl (by decide) rfl ?_
  refine sv_iconst (pc := 2) (v := (0 : Int32)) (sv_d k_Mo_lawOn 2 rfl) (by decide) ?_
  refine sv_istore (pc := 3) (lv' := [(4, .int (0 : Int32)), (3, .int (-1 : Int32)), (0, sv_r E 187), (1, .int x1), (2, .int x2)]) (sv_d k_Mo_lawOn 3 rfl) (by decide) rfl ?_
  exact sv_loc [2, 3, 4, 1, 0] rfl (V_Mo_lawOn_b5 E d s ss_F x1 x2 (-1 : Int32) (0 : Int32))
/-! Mo_look -/
abbrev m_Mo_look : sv_M := (yX12_look, cX12_look, 6, none)
def t_Mo_look : List (Nat × Instr × Nat) := [(0, .aload_n 0, 1), (1, .invokevirtual 352, 3), (4, .aload_n 0, 1), (5, .iconst (-1), 1), (6, .iload_n 2, 1), (7, .invokevirtual 355, 3), (10, .istore_n 3, 1), (11, .iload_n 3, 1), (12, .ifCond .lt 11, 3), (15, .aload_n 0, 1), (16, .iload_n 3, 1), (17, .invokevirtual 349, 3), (20, .ifCond .eq 7, 3), (23, .iconst 1, 1), (24, .goto 4, 3), (27, .iconst 0, 1), (28, .istore 4, 2), (30, .iload_n 1, 1), (31, .ifCond .ge 7, 3), (34, .iconst (-1), 1), (35, .goto 9, 3), (38, .aload_n 0, 1), (39, .iload_n 1, 1), (40, .iload_n 2, 1), (41, .invokevirtual 355, 3), (44, .istore 5, 2), (46, .iload 4, 2), (48, .ifCond .eq 16, 3), (51, .iload 5, 2), (53, .ifCond .lt 11, 3), (56, .aload_n 0, 1), (57, .iload 5, 2), (59, .invokevirtual 349, 3), (62, .istore 4, 2), (64, .return_, 1)]
theorem k_Mo_look : sv_tk m_Mo_look.2.1 t_Mo_look := by decide +kernel
theorem g_Mo_look : sv_G m_Mo_look 2 := ⟨by decide +kernel, sv_in 1673 (by decide +kernel) rfl, sv_in 103 (by decide +kernel) rfl, ⟨by decide, by decide⟩, by decide +kernel, by decide⟩
theorem in_Mo_look : Cond.instanceMethod m_Mo_look.1 ∈ sv_T := sv_in 1672 (by decide +kernel) rfl
theorem se_Mo_look : Cond.selects m_Mo_look.1.cls m_Mo_look.1 m_Mo_look.1 ∈ sv_T := sv_in 56 (by decide +kernel) rfl
def F_Mo_look_b44 (x4 : Int32) (t0 : Int32) (s : sv_S) : Option (sv_S) :=
  if x4 = 0 then
    some s
  else
  if t0 < 0 then
    some s
  else
  (F_Mo_goes t0 s).bind fun r4 =>
  some r4.2
theorem V_Mo_look_b44 (E : sv_E) (d : Nat) (x4 : Int32) (t0 : Int32) (s : sv_S) : sv_V E m_Mo_look (d + 7) ss_v 44 [(0, sv_r E 187), (4, .int x4)] [.int t0] (ss_e s) (F_Mo_look_b44 x4 t0 s) := by
  unfold F_Mo_look_b44
  refine sv_istore (pc := 44) (lv' := [(5, .int t0), (0, sv_r E 187), (4, .int x4)]) (sv_d k_Mo_look 25 rfl) (by decide) rfl ?_
  refine sv_iload (pc := 46) 2 (sv_d k_Mo_look 26 rfl) rfl ?_
  refine sv_if_eq (pc := 48) (tgt := 64) (sv_d k_Mo_look 27 rfl) (by decide) ?_ ?_
  · exact sv_retv (pc := 64) (sv_d k_Mo_look 34 rfl) rfl rfl
  · refine sv_iload (pc := 51) 0 (sv_d k_Mo_look 28 rfl) rfl ?_
    refine sv_if_lt (pc := 53) (tgt := 64) (sv_d k_Mo_look 29 rfl) (by decide) ?_ ?_
    · exact sv_retv (pc := 64) (sv_d k_Mo_look 34 rfl) rfl rfl
    · refine sv_aload_n (pc := 56) 1 (sv_d k_Mo_look 30 rfl) rfl rfl ?_
      refine sv_iload (pc := 57) 0 (sv_d k_Mo_look 31 rfl) rfl ?_
      refine sv_callV (pc := 59) (ψ := ss_i) (As := [.int t0]) (rest := []) (c := 187) (sv_d k_Mo_look 32 rfl) g_Mo_goes w1598 in_Mo_goes se_Mo_goes cf12 kd187 (ss_lt (by decide)) rfl (Nat.le_of_ble_eq_true rfl) (V_Mo_goes E (d + 0) t0 s) (Nat.le_of_ble_eq_true rfl) rfl (fun r4 => ?_)
      show sv_V E _ _ _ 62 _ [.int r4.1] (ss_e r4.2) _
      refine sv_istore (pc := 62) (lv' := [(4, .int r4.1), (5, .int t0), (0, sv_r E 187)]) (sv_d k_Mo_look 33 rfl) (by decide) rfl ?_
      exact sv_retv (pc := 64) (sv_d k_Mo_look 34 rfl) rfl rfl
def F_Mo_look_b28 (x1 : Int32) (x2 : Int32) (t0 : Int32) (s : sv_S) : Option (sv_S) :=
  if 0 ≤ x1 then
    (F_Mo_lawOn x1 x2 s).bind fun r3 =>
    F_Mo_look_b44 t0 r3 s
  else
  F_Mo_look_b44 t0 (-1 : Int32) s
theorem V_Mo_look_b28 (E : sv_E) (d : Nat) (x1 : Int32) (x2 : Int32) (t0 : Int32) (s : sv_S) : sv_V E m_Mo_look (d + 7) ss_v 28 [(0, sv_r E 187), (1, .int x1), (2, .int x2)] [.int t0] (ss_e s) (F_Mo_look_b28 x1 x2 t0 s) := by
  unfold F_Mo_look_b28
  refine sv_istore (pc := 28) (lv' := [(4, .int t0), (0, sv_r E 187), (1, .int x1), (2, .int x2)]) (sv_d k_Mo_look 16 rfl) (by decide) rfl ?_
  refine sv_iload_n (pc := 30) 2 (sv_d k_Mo_look 17 rfl) rfl rfl ?_
  refine sv_if_ge (pc := 31) (tgt := 38) (sv_d k_Mo_look 18 rfl) (by decide) ?_ ?_
  · refine sv_aload_n (pc := 38) 1 (sv_d k_Mo_look 21 rfl) rfl rfl ?_
    refine sv_iload_n (pc := 39) 2 (sv_d k_Mo_look 22 rfl) rfl rfl ?_
    refine sv_iload_n (pc := 40) 3 (sv_d k_Mo_look 23 rfl) rfl rfl ?_
    refine sv_callV (pc := 41) (ψ := (ss_pi s)) (As := [.int x1, .int x2]) (rest := []) (c := 187) (sv_d k_Mo_look 24 rfl) g_Mo_lawOn w1678 in_Mo_lawOn se_Mo_lawOn cf12 kd187 (ss_lt (by decide)) rfl (Nat.le_of_ble_eq_true rfl) (V_Mo_lawOn E (d + 6) x1 x2 s) (Nat.le_of_ble_eq_true rfl) rfl (fun r3 => ?_)
    show sv_V E _ _ _ 44 _ [.int r3] (ss_e s) _
    exact sv_loc [1, 0] rfl (V_Mo_look_b44 E d t0 r3 s)
  · refine sv_iconst (pc := 34) (v := (-1 : Int32)) (sv_d k_Mo_look 19 rfl) (by decide) ?_
    refine sv_goto (pc := 35) (tgt := 44) (sv_d k_Mo_look 20 rfl) (by decide) ?_
    exact sv_loc [1, 0] rfl (V_Mo_look_b44 E d t0 (-1 : Int32) s)
def F_Mo_look_b23 (x1 : Int32) (x2 : Int32) (s : sv_S) : Option (sv_S) :=
  F_Mo_look_b28 x1 x2 (1 : Int32) s
theorem V_Mo_look_b23 (E : sv_E) (d : Nat) (x1 : Int32) (x2 : Int32) (s : sv_S) : sv_V E m_Mo_look (d + 7) ss_v 23 [(0, sv_r E 187), (1, .int x1), (2, .int x2)] [] (ss_e s) (F_Mo_look_b23 x1 x2 s) := by
  unfold F_Mo_look_b23
  refine sv_iconst (pc := 23) (v := (1 : Int32)) (sv_d k_Mo_look 13 rfl) (by decide) ?_
  refine sv_goto (pc := 24) (tgt := 28) (sv_d k_Mo_look 14 rfl) (by decide) ?_
  exact sv_loc [0, 1, 2] rfl (V_Mo_look_b28 E d x1 x2 (1 : Int32) s)
def F_Mo_look (x1 : Int32) (x2 : Int32) (s : sv_S) : Option (sv_S) :=
  (F_Mo_clean s).bind fun r1 =>
  (F_Mo_lawOn (-1 : Int32) x2 r1).bind fun r2 =>
  if r2 < 0 then
    F_Mo_look_b23 x1 x2 r1
  else
  (F_Mo_goes r2 r1).bind fun r5 =>
  if r5.1 = 0 then
    F_Mo_look_b28 x1 x2 (0 : Int32) r5.2
  else
  F_Mo_look_b23 x1 x2 r5.2
theorem V_Mo_look (E : sv_E) (d : Nat) (x1 : Int32) (x2 : Int32) (s : sv_S) : sv_V E m_Mo_look (d + 7) ss_v 0 (lv_args 0 [sv_r E 187, .int x1, .int x2]) [] (ss_e s) (F_Mo_look x1 x2 s) := by
  show sv_V E m_Mo_look (d + 7) ss_v 0 [(0, sv_r E 187), (1, .int x1), (2, .int x2)] [] (ss_e s) _
  unfold F_Mo_look
  refine sv_aload_n (pc := 0) 0 (sv_d k_Mo_look 0 rfl) rfl rfl ?_
  refine sv_callV (pc := 1) (ψ := ss_v) (As := []) (rest := []) (c := 187) (sv_d k_Mo_look 1 rfl) g_Mo_clean w1674 in_Mo_clean se_Mo_clean cf12 kd187 (ss_lt (by decide)) rfl (Nat.le_of_ble_eq_true rfl) (V_Mo_clean E (d + 6) s) (Nat.le_of_ble_eq_true rfl) rfl (fun r1 => ?_)
  show sv_V E _ _ _ 4 _ [] (ss_e r1) _
  refine sv_aload_n (pc := 4) 0 (sv_d k_Mo_look 2 rfl) rfl rfl ?_
  refine sv_iconst (pc := 5) (v := (-1 : Int32)) (sv_d k_Mo_look 3 rfl) (by decide) ?_
  refine sv_iload_n (pc := 6) 2 (sv_d k_Mo_look 4 rfl) rfl rfl ?_
  refine sv_callV (pc := 7) (ψ := (ss_pi r1)) (As := [.int (-1 : Int32), .int x2]) (rest := []) (c := 187) (sv_d k_Mo_look 5 rfl) g_Mo_lawOn w1678 in_Mo_lawOn se_Mo_lawOn cf12 kd187 (ss_lt (by decide)) rfl (Nat.le_of_ble_eq_true rfl) (V_Mo_lawOn E (d + 6) (-1 : Int32) x2 r1) (Nat.le_of_ble_eq_true rfl) rfl (fun r2 => ?_)
  show sv_V E _ _ _ 10 _ [.int r2] (ss_e r1) _
  refine sv_istore_n (pc := 10) (lv' := [(3, .int r2), (0, sv_r E 187), (1, .int x1), (2, .int x2)]) (sv_d k_Mo_look 6 rfl) rfl (by decide) rfl ?_
  refine sv_iload_n (pc := 11) 0 (sv_d k_Mo_look 7 rfl) rfl rfl ?_
  refine sv_if_lt (pc := 12) (tgt := 23) (sv_d k_Mo_look 8 rfl) (by decide) ?_ ?_
  · exact sv_loc [1, 2, 3] rfl (V_Mo_look_b23 E d x1 x2 r1)
  · refine sv_aload_n (pc := 15) 1 (sv_d k_Mo_look 9 rfl) rfl rfl ?_
    refine sv_iload_n (pc := 16) 0 (sv_d k_Mo_look 10 rfl) rfl rfl ?_
    refine sv_callV (pc := 17) (ψ := ss_i) (As := [.int r2]) (rest := []) (c := 187) (sv_d k_Mo_look 11 rfl) g_Mo_goes w1598 in_Mo_goes se_Mo_goes cf12 kd187 (ss_lt (by decide)) rfl (Nat.le_of_ble_eq_true rfl) (V_Mo_goes E (d + 0) r2 r1) (Nat.le_of_ble_eq_true rfl) rfl (fun r5 => ?_)
    show sv_V E _ _ _ 20 _ [.int r5.1] (ss_e r5.2) _
    refine sv_if_eq (pc := 20) (tgt := 27) (sv_d k_Mo_look 12 rfl) (by decide) ?_ ?_
    · refine sv_iconst (pc := 27) (v := (0 : Int32)) (sv_d k_Mo_look 15 rfl) (by decide) ?_
      exact sv_loc [1, 2, 3] rfl (V_Mo_look_b28 E d x1 x2 (0 : Int32) r5.2)
    · exact sv_loc [1, 2, 3] rfl (V_Mo_look_b23 E d x1 x2 r5.2)
/-! Mo_holds -/
abbrev m_Mo_holds : sv_M := (yX12_holds, cX12_holds, 4, (some .int))
def t_Mo_holds : List (Nat × Instr × Nat) := [(0, .aload_n 0, 1), (1, .iload_n 1, 1), (2, .iconst (-1), 1), (3, .iconst 5, 1), (4, .invokevirtual 251, 3), (7, .ifCond .eq 11, 3), (10, .aload_n 0, 1), (11, .iload_n 2, 1), (12, .invokevirtual 346, 3), (15, .ifCond .ne 6, 3), (18, .bipush (-5), 2), (20, .ireturn, 1), (21, .aload_n 0, 1), (22, .iload_n 1, 1), (23, .iload_n 2, 1), (24, .invokevirtual 358, 3), (27, .iload_n 3, 1), (28, .ifCond .ne 10, 3), (31, .aload_n 0, 1), (32, .iload_n 1, 1), (33, .iload_n 2, 1), (34, .invokevirtual 355, 3), (37, .ireturn, 1), (38, .aload_n 0, 1), (39, .iload_n 3, 1), (40, .iconst 1, 1), (41, .iconst 5, 1), (42, .invokevirtual 251, 3), (45, .ifCond .eq 12, 3), (48, .aload_n 0, 1), (49, .getfield 65, 3), (52, .iload_n 3, 1), (53, .iconst 1, 1), (54, .isub, 1), (55, .iaload, 1), (56, .ireturn, 1), (57, .iload_n 3, 1), (58, .bipush 6, 2), (60, .if_icmp .ne 16, 3), (63, .aload_n 0, 1), (64, .getfield 68, 3), (67, .ifCond .eq 7, 3), (70, .iconst 1, 1), (71, .goto 4, 3), (74, .iconst 0, 1), (75, .ireturn, 1), (76, .aload_n 0, 1), (77, .iload_n 3, 1), (78, .bipush 10, 2), (80, .bipush 19, 2), (82, .invokevirtual 251, 3), (85, .ifCond .eq 15, 3), (88, .aload_n 0, 1), (89, .getfield 62, 3), (92, .iload_n 3, 1), (93, .bipush 10, 2), (95, .isub, 1), (96, .iaload, 1), (97, .goto 29, 3), (100, .aload_n 0, 1), (101, .iload_n 3, 1), (102, .bipush 20, 2), (104, .bipush 39, 2), (106, .invokevirtual 251, 3), (109, .ifCond .eq 15, 3), (112, .aload_n 0, 1), (113, .getfield 59, 3), (116, .iload_n 3, 1), (117, .bipush 20, 2), (119, .isub, 1), (120, .iaload, 1), (121, .goto 5, 3), (124, .bipush (-5), 2), (126, .ireturn, 1)]
theorem k_Mo_holds : sv_tk m_Mo_holds.2.1 t_Mo_holds := by decide +kernel
theorem g_Mo_holds : sv_G m_Mo_holds 3 := ⟨by decide +kernel, sv_in 1669 (by decide +kernel) rfl, sv_in 103 (by decide +kernel) rfl, ⟨by decide, by decide⟩, by decide +kernel, by decide⟩
theorem in_Mo_holds : Cond.instanceMethod m_Mo_holds.1 ∈ sv_T := sv_in 1667 (by decide +kernel) rfl
theorem se_Mo_holds : Cond.selects m_Mo_holds.1.cls m_Mo_holds.1 m_Mo_holds.1 ∈ sv_T := sv_in 1668 (by decide +kernel) rfl
def F_Mo_holds (x1 : Int32) (x2 : Int32) (x3 : Int32) (s : sv_S) : Option (Int32 × sv_S) :=
  (F_Mo_in x1 (-1 : Int32) (5 : Int32) s).bind fun r1 =>
  if r1 = 0 then
    some ((-5 : Int32), s)
  else
  (F_Mo_isDay x2 s).bind fun r2 =>
  if r2 = 0 then
    some ((-5 : Int32), s)
  else
  (F_Mo_look x1 x2 s).bind fun r3 =>
  if x3 = 0 then
    (F_Mo_lawOn x1 x2 r3).bind fun r7 =>
    some (r7, r3)
  else
  (F_Mo_in x3 (1 : Int32) (5 : Int32) r3).bind fun r4 =>
  if r4 = 0 then
    if x3 = (6 : Int32) then
      if (r3.1 187 19) = 0 then
        some ((0 : Int32), r3)
      else
      some ((1 : Int32), r3)
    else
    (F_Mo_in x3 (10 : Int32) (19 : Int32) r3).bind fun r5 =>
    if r5 = 0 then
      (F_Mo_in x3 (20 : Int32) (39 : Int32) r3).bind fun r6 =>
      if r6 = 0 then
        some ((-5 : Int32), r3)
      else
      if sv_ib (x3 - (20 : Int32)) 20 = true then
        some (r3.1 199 (x3 - (20 : Int32)).toNatClampNeg, r3)
      else none
    else
    if sv_ib (x3 - (10 : Int32)) 10 = true then
      some (r3.1 200 (x3 - (10 : Int32)).toNatClampNeg, r3)
    else none
  else
  if sv_ib (x3 - (1 : Int32)) 5 = true then
    some (r3.1 201 (x3 - (1 : Int32)).toNatClampNeg, r3)
  else none
theorem V_Mo_holds (E : sv_E) (d : Nat) (x1 : Int32) (x2 : Int32) (x3 : Int32) (s : sv_S) : sv_V E m_Mo_holds (d + 8) ss_i 0 (lv_args 0 [sv_r E 187, .int x1, .int x2, .int x3]) [] (ss_e s) (F_Mo_holds x1 x2 x3 s) := by
  show sv_V E m_Mo_holds (d + 8) ss_i 0 [(0, sv_r E 187), (1, .int x1), (2, .int x2), (3, .int x3)] [] (ss_e s) _
  unfold F_Mo_holds
  refine sv_aload_n (pc := 0) 0 (sv_d k_Mo_holds 0 rfl) rfl rfl ?_
  refine sv_iload_n (pc := 1) 1 (sv_d k_Mo_holds 1 rfl) rfl rfl ?_
  refine sv_iconst (pc := 2) (v := (-1 : Int32)) (sv_d k_Mo_holds 2 rfl) (by decide) ?_
  refine sv_iconst (pc := 3) (v := (5 : Int32)) (sv_d k_Mo_holds 3 rfl) (by decide) ?_
  refine sv_callV (pc := 4) (ψ := (ss_pi s)) (As := [.int x1, .int (-1 : Int32), .int (5 : Int32)]) (rest := []) (c := 187) (sv_d k_Mo_holds 4 rfl) g_Mo_in w1545 in_Mo_in se_Mo_in cf12 kd187 (ss_lt (by decide)) rfl (Nat.le_of_ble_eq_true rfl) (V_Mo_in E (d + 7) x1 (-1 : Int32) (5 : Int32) s) (Nat.le_of_ble_eq_true rfl) rfl (fun r1 => ?_)
  show sv_V E _ _ _ 7 _ [.int r1] (ss_e s) _
  refine sv_if_eq (pc := 7) (tgt := 18) (sv_d k_Mo_holds 5 rfl) (by decide) ?_ ?_
  · refine sv_bipush (pc := 18) (v := (-5 : Int32)) (sv_d k_Mo_holds 10 rfl) (by decide) ?_
    exact sv_ret (pc := 20) (sv_d k_Mo_holds 11 rfl) ⟨_, rfl, rfl⟩ rfl
  · refine sv_aload_n (pc := 10) 0 (sv_d k_Mo_holds 6 rfl) rfl rfl ?_
    refine sv_iload_n (pc := 11) 2 (sv_d k_Mo_holds 7 rfl) rfl rfl ?_
    refine sv_callV (pc := 12) (ψ := (ss_pi s)) (As := [.int x2]) (rest := []) (c := 187) (sv_d k_Mo_holds 8 rfl) g_Mo_isDay w1594 in_Mo_isDay se_Mo_isDay cf12 kd187 (ss_lt (by decide)) rfl (Nat.le_of_ble_eq_true rfl) (V_Mo_isDay E (d + 6) x2 s) (Nat.le_of_ble_eq_true rfl) rfl (fun r2 => ?_)
    show sv_V E _ _ _ 15 _ [.int r2] (ss_e s) _
    refine sv_if_ne (pc := 15) (tgt := 21) (sv_d k_Mo_holds 9 rfl) (by decide) ?_ ?_
    · refine sv_aload_n (pc := 21) 0 (sv_d k_Mo_holds 12 rfl) rfl rfl ?_
      refine sv_iload_n (pc := 22) 1 (sv_d k_Mo_holds 13 rfl) rfl rfl ?_
      refine sv_iload_n (pc := 23) 2 (sv_d k_Mo_holds 14 rfl) rfl rfl ?_
      refine sv_callV (pc := 24) (ψ := ss_v) (As := [.int x1, .int x2]) (rest := []) (c := 187) (sv_d k_Mo_holds 15 rfl) g_Mo_look w1670 in_Mo_look se_Mo_look cf12 kd187 (ss_lt (by decide)) rfl (Nat.le_of_ble_eq_true rfl) (V_Mo_look E (d + 0) x1 x2 s) (Nat.le_of_ble_eq_true rfl) rfl (fun r3 => ?_)
      show sv_V E _ _ _ 27 _ [] (ss_e r3) _
      refine sv_iload_n (pc := 27) 3 (sv_d k_Mo_holds 16 rfl) rfl rfl ?_
      refine sv_if_ne (pc := 28) (tgt := 38) (sv_d k_Mo_holds 17 rfl) (by decide) ?_ ?_
      · refine sv_aload_n (pc := 38) 0 (sv_d k_Mo_holds 23 rfl) rfl rfl ?_
        refine sv_iload_n (pc := 39) 3 (sv_d k_Mo_holds 24 rfl) rfl rfl ?_
        refine sv_iconst (pc := 40) (v := (1 : Int32)) (sv_d k_Mo_holds 25 rfl) (by decide) ?_
        refine sv_iconst (pc := 41) (v := (5 : Int32)) (sv_d k_Mo_holds 26 rfl) (by decide) ?_
        refine sv_callV (pc := 42) (ψ := (ss_pi r3)) (As := [.int x3, .int (1 : Int32), .int (5 : Int32)]) (rest := []) (c := 187) (sv_d k_Mo_holds 27 rfl) g_Mo_in w1545 in_Mo_in se_Mo_in cf12 kd187 (ss_lt (by decide)) rfl (Nat.le_of_ble_eq_true rfl) (V_Mo_in E (d + 7) x3 (1 : Int32) (5 : Int32) r3) (Nat.le_of_ble_eq_true rfl) rfl (fun r4 => ?_)
        show sv_V E _ _ _ 45 _ [.int r4] (ss_e r3) _
        refine sv_if_eq (pc := 45) (tgt := 57) (sv_d k_Mo_holds 28 rfl) (by decide) ?_ ?_
        · refine sv_iload_n (pc := 57) 3 (sv_d k_Mo_holds 36 rfl) rfl rfl ?_
          refine sv_bipush (pc := 58) (v := (6 : Int32)) (sv_d k_Mo_holds 37 rfl) (by decide) ?_
          refine sv_icmp_ne (pc := 60) (tgt := 76) (sv_d k_Mo_holds 38 rfl) (by decide) ?_ ?_
          · refine sv_aload_n (pc := 76) 0 (sv_d k_Mo_holds 46 rfl) rfl rfl ?_
            refine sv_iload_n (pc := 77) 3 (sv_d k_Mo_holds 47 rfl) rfl rfl ?_
            refine sv_bipush (pc := 78) (v := (10 : Int32)) (sv_d k_Mo_holds 48 rfl) (by decide) ?_
            refine sv_bipush (pc := 80) (v := (19 : Int32)) (sv_d k_Mo_holds 49 rfl) (by decide) ?_
            refine sv_callV (pc := 82) (ψ := (ss_pi r3)) (As := [.int x3, .int (10 : Int32), .int (19 : Int32)]) (rest := []) (c := 187) (sv_d k_Mo_holds 50 rfl) g_Mo_in w1545 in_Mo_in se_Mo_in cf12 kd187 (ss_lt (by decide)) rfl (Nat.le_of_ble_eq_true rfl) (V_Mo_in E (d + 7) x3 (10 : Int32) (19 : Int32) r3) (Nat.le_of_ble_eq_true rfl) rfl (fun r5 => ?_)
            show sv_V E _ _ _ 85 _ [.int r5] (ss_e r3) _
            refine sv_if_eq (pc := 85) (tgt := 100) (sv_d k_Mo_holds 51 rfl) (by decide) ?_ ?_
            · refine sv_aload_n (pc := 100) 0 (sv_d k_Mo_holds 59 rfl) rfl rfl ?_
              refine sv_iload_n (pc := 101) 3 (sv_d k_Mo_holds 60 rfl) rfl rfl ?_
              refine sv_bipush (pc := 102) (v := (20 : Int32)) (sv_d k_Mo_holds 61 rfl) (by decide) ?_
              refine sv_bipush (pc := 104) (v := (39 : Int32)) (sv_d k_Mo_holds 62 rfl) (by decide) ?_
              refine sv_callV (pc := 106) (ψ := (ss_pi r3)) (As := [.int x3, .int (20 : Int32), .int (39 : Int32)]) (rest := []) (c := 187) (sv_d k_Mo_holds 63 rfl) g_Mo_in w1545 in_Mo_in se_Mo_in cf12 kd187 (ss_lt (by decide)) rfl (Nat.le_of_ble_eq_true rfl) (V_Mo_in E (d + 7) x3 (20 : Int32) (39 : Int32) r3) (Nat.le_of_ble_eq_true rfl) rfl (fun r6 => ?_)
              show sv_V E _ _ _ 109 _ [.int r6] (ss_e r3) _
              refine sv_if_eq (pc := 109) (tgt := 124) (sv_d k_Mo_holds 64 rfl) (by decide) ?_ ?_
              · refine sv_bipush (pc := 124) (v := (-5 : Int32)) (sv_d k_Mo_holds 72 rfl) (by decide) ?_
                exact sv_ret (pc := 126) (sv_d k_Mo_holds 73 rfl) ⟨_, rfl, rfl⟩ rfl
              · refine sv_aload_n (pc := 112) 0 (sv_d k_Mo_holds 65 rfl) rfl rfl ?_
                refine sv_getf (pc := 113) 16 (sv_d k_Mo_holds 66 rfl) cf12 (by decide) w1318 kd187 (ss_lt (by decide)) (lr_187_16 E _) ?_
                refine sv_iload_n (pc := 116) 3 (sv_d k_Mo_holds 67 rfl) rfl rfl ?_
                refine sv_bipush (pc := 117) (v := (20 : Int32)) (sv_d k_Mo_holds 68 rfl) (by decide) ?_
                refine sv_isub (pc := 119) (sv_d k_Mo_holds 69 rfl) ?_
                refine ss_iald (pc := 120) (n := 20) (sv_d k_Mo_holds 70 rfl) kd199 (ss_lt (by decide)) rfl ?_
                refine sv_goto (pc := 121) (tgt := 126) (sv_d k_Mo_holds 71 rfl) (by decide) ?_
                exact sv_ret (pc := 126) (sv_d k_Mo_holds 73 rfl) ⟨_, rfl, rfl⟩ rfl
            · refine sv_aload_n (pc := 88) 0 (sv_d k_Mo_holds 52 rfl) rfl rfl ?_
              refine sv_getf (pc := 89) 17 (sv_d k_Mo_holds 53 rfl) cf12 (by decide) w1319 kd187 (ss_lt (by decide)) (lr_187_17 E _) ?_
              refine sv_iload_n (pc := 92) 3 (sv_d k_Mo_holds 54 rfl) rfl rfl ?_
              refine sv_bipush (pc := 93) (v := (10 : Int32)) (sv_d k_Mo_holds 55 rfl) (by decide) ?_
              refine sv_isub (pc := 95) (sv_d k_Mo_holds 56 rfl) ?_
              refine ss_iald (pc := 96) (n := 10) (sv_d k_Mo_holds 57 rfl) kd200 (ss_lt (by decide)) rfl ?_
              refine sv_goto (pc := 97) (tgt := 126) (sv_d k_Mo_holds 58 rfl) (by decide) ?_
              exact sv_ret (pc := 126) (sv_d k_Mo_holds 73 rfl) ⟨_, rfl, rfl⟩ rfl
          · refine sv_aload_n (pc := 63) 0 (sv_d k_Mo_holds 39 rfl) rfl rfl ?_
            refine sv_getf (pc := 64) 19 (sv_d k_Mo_holds 40 rfl) cf12 (by decide) w1321 kd187 (ss_lt (by decide)) rfl ?_
            refine sv_if_eq (pc := 67) (tgt := 74) (sv_d k_Mo_holds 41 rfl) (by decide) ?_ ?_
            · refine sv_iconst (pc := 74) (v := (0 : Int32)) (sv_d k_Mo_holds 44 rfl) (by decide) ?_
              exact sv_ret (pc := 75) (sv_d k_Mo_holds 45 rfl) ⟨_, rfl, rfl⟩ rfl
            · refine sv_iconst (pc := 70) (v := (1 : Int32)) (sv_d k_Mo_holds 42 rfl) (by decide) ?_
              refine sv_goto (pc := 71) (tgt := 75) (sv_d k_Mo_holds 43 rfl) (by decide) ?_
              exact sv_ret (pc := 75) (sv_d k_Mo_holds 45 rfl) ⟨_, rfl, rfl⟩ rfl
        · refine sv_aload_n (pc := 48) 0 (sv_d k_Mo_holds 29 rfl) rfl rfl ?_
          refine sv_getf (pc := 49) 18 (sv_d k_Mo_holds 30 rfl) cf12 (by decide) w1320 kd187 (ss_lt (by decide)) (lr_187_18 E _) ?_
          refine sv_iload_n (pc := 52) 3 (sv_d k_Mo_holds 31 rfl) rfl rfl ?_
          refine sv_iconst (pc := 53) (v := (1 : Int32)) (sv_d k_Mo_holds 32 rfl) (by decide) ?_
          refine sv_isub (pc := 54) (sv_d k_Mo_holds 33 rfl) ?_
          refine ss_iald (pc := 55) (n := 5) (sv_d k_Mo_holds 34 rfl) kd201 (ss_lt (by decide)) rfl ?_
          exact sv_ret (pc := 56) (sv_d k_Mo_holds 35 rfl) ⟨_, rfl, rfl⟩ rfl
      · refine sv_aload_n (pc := 31) 0 (sv_d k_Mo_holds 18 rfl) rfl rfl ?_
        refine sv_iload_n (pc := 32) 1 (sv_d k_Mo_holds 19 rfl) rfl rfl ?_
        refine sv_iload_n (pc := 33) 2 (sv_d k_Mo_holds 20 rfl) rfl rfl ?_
        refine sv_callV (pc := 34) (ψ := (ss_pi r3)) (As := [.int x1, .int x2]) (rest := []) (c := 187) (sv_d k_Mo_holds 21 rfl) g_Mo_lawOn w1678 in_Mo_lawOn se_Mo_lawOn cf12 kd187 (ss_lt (by decide)) rfl (Nat.le_of_ble_eq_true rfl) (V_Mo_lawOn E (d + 7) x1 x2 r3) (Nat.le_of_ble_eq_true rfl) rfl (fun r7 => ?_)
        show sv_V E _ _ _ 37 _ [.int r7] (ss_e r3) _
        exact sv_ret (pc := 37) (sv_d k_Mo_holds 22 rfl) ⟨_, rfl, rfl⟩ rfl
    · refine sv_bipush (pc := 18) (v := (-5 : Int32)) (sv_d k_Mo_holds 10 rfl) (by decide) ?_
      exact sv_ret (pc := 20) (sv_d k_Mo_holds 11 rfl) ⟨_, rfl, rfl⟩ rfl
