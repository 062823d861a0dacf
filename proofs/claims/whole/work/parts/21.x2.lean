/-! X_truck -/
abbrev m_X_truck : sv_M := (yX11_truck, cX11_truck, 7, (some .int))
def t_X_truck : List (Nat × Instr × Nat) := [(0, .aload_n 0, 1), (1, .iload_n 1, 1), (2, .iload_n 2, 1), (3, .iload_n 3, 1), (4, .iload 4, 2), (6, .iload 5, 2), (8, .invokevirtual 240, 3), (11, .istore 6, 2), (13, .iload 6, 2), (15, .ifCond .eq 6, 3), (18, .iload 6, 2), (20, .ireturn, 1), (21, .aload_n 0, 1), (22, .getfield 46, 3), (25, .invokevirtual 244, 3), (28, .ifCond .eq 8, 3), (31, .bipush (-4), 2), (33, .goto 17, 3), (36, .aload_n 0, 1), (37, .getfield 46, 3), (40, .iload_n 1, 1), (41, .iload_n 2, 1), (42, .iload_n 3, 1), (43, .iload 4, 2), (45, .iload 5, 2), (47, .invokevirtual 245, 3), (50, .ireturn, 1)]
theorem k_X_truck : sv_tk m_X_truck.2.1 t_X_truck := by decide +kernel
theorem g_X_truck : sv_G m_X_truck 5 := ⟨by decide +kernel, sv_in 934 (by decide +kernel) rfl, sv_in 90 (by decide +kernel) rfl, ⟨by decide, by decide⟩, by decide +kernel, by decide⟩
theorem in_X_truck : Cond.instanceMethod m_X_truck.1 ∈ sv_T := sv_in 932 (by decide +kernel) rfl
theorem se_X_truck : Cond.selects m_X_truck.1.cls m_X_truck.1 m_X_truck.1 ∈ sv_T := sv_in 933 (by decide +kernel) rfl
def F_X_truck (x1 : Int32) (x2 : Int32) (x3 : Int32) (x4 : Int32) (x5 : Int32) (s : sv_S) : Option (Int32 × sv_S) :=
  (F_X_truckRefusal x1 x2 x3 x4 x5 s).bind fun r1 =>
  if r1 = 0 then
    (F_Tr_areFull s).bind fun r2 =>
    if r2 = 0 then
      (F_Tr_add x1 x2 x3 x4 x5 s).bind fun r3 =>
      some (r3.1, r3.2)
    else
    some ((-4 : Int32), s)
  else
  some (r1, s)
theorem V_X_truck (E : sv_E) (d : Nat) (x1 : Int32) (x2 : Int32) (x3 : Int32) (x4 : Int32) (x5 : Int32) (s : sv_S) : sv_V E m_X_truck (d + 2) ss_i 0 (lv_args 0 [sv_r E 64, .int x1, .int x2, .int x3, .int x4, .int x5]) [] (ss_e s) (F_X_truck x1 x2 x3 x4 x5 s) := by
  show sv_V E m_X_truck (d + 2) ss_i 0 [(0, sv_r E 64), (1, .int x1), (2, .int x2), (3, .int x3), (4, .int x4), (5, .int x5)] [] (ss_e s) _
  unfold F_X_truck
  refine sv_aload_n (pc := 0) 0 (sv_d k_X_truck 0 rfl) rfl rfl ?_
  refine sv_iload_n (pc := 1) 1 (sv_d k_X_truck 1 rfl) rfl rfl ?_
  refine sv_iload_n (pc := 2) 2 (sv_d k_X_truck 2 rfl) rfl rfl ?_
  refine sv_iload_n (pc := 3) 3 (sv_d k_X_truck 3 rfl) rfl rfl ?_
  refine sv_iload (pc := 4) 4 (sv_d k_X_truck 4 rfl) rfl ?_
  refine sv_iload (pc := 6) 5 (sv_d k_X_truck 5 rfl) rfl ?_
  refine sv_callV (pc := 8) (ψ := (ss_pi s)) (As := [.int x1, .int x2, .int x3, .int x4, .int x5]) (rest := []) (c := 64) (sv_d k_X_truck 6 rfl) g_X_truckRefusal w935 in_X_truckRefusal se_X_truckRefusal cf11 kd64 (ss_lt (by decide)) rfl (Nat.le_of_ble_eq_true rfl) (V_X_truckRefusal E (d + 0) x1 x2 x3 x4 x5 s) (Nat.le_of_ble_eq_true rfl) rfl (fun r1 => ?_)
  show sv_V E _ _ _ 11 _ [.int r1] (ss_e s) _
  refine sv_istore (pc := 11) (lv' := [(6, .int r1), (0, sv_r E 64), (1, .int x1), (2, .int x2), (3, .int x3), (4, .int x4), (5, .int x5)]) (sv_d k_X_truck 7 rfl) (by decide) rfl ?_
  refine sv_iload (pc := 13) 0 (sv_d k_X_truck 8 rfl) rfl ?_
  refine sv_if_eq (pc := 15) (tgt := 21) (sv_d k_X_truck 9 rfl) (by decide) ?_ ?_
  · refine sv_aload_n (pc := 21) 1 (sv_d k_X_truck 12 rfl) rfl rfl ?_
    refine sv_getf (pc := 22) 4 (sv_d k_X_truck 13 rfl) cf11 (by decide) w520 kd64 (ss_lt (by decide)) (lr_64_4 E _) ?_
    refine sv_callV (pc := 25) (ψ := (ss_pi s)) (As := []) (rest := []) (c := 151) (sv_d k_X_truck 14 rfl) g_Tr_areFull w940 in_Tr_areFull se_Tr_areFull cf9 kd151 (ss_lt (by decide)) rfl (Nat.le_of_ble_eq_true rfl) (V_Tr_areFull E (d + 1) s) (Nat.le_of_ble_eq_true rfl) rfl (fun r2 => ?_)
    show sv_V E _ _ _ 28 _ [.int r2] (ss_e s) _
    refine sv_if_eq (pc := 28) (tgt := 36) (sv_d k_X_truck 15 rfl) (by decide) ?_ ?_
    · refine sv_aload_n (pc := 36) 1 (sv_d k_X_truck 18 rfl) rfl rfl ?_
      refine sv_getf (pc := 37) 4 (sv_d k_X_truck 19 rfl) cf11 (by decide) w520 kd64 (ss_lt (by decide)) (lr_64_4 E _) ?_
      refine sv_iload_n (pc := 40) 2 (sv_d k_X_truck 20 rfl) rfl rfl ?_
      refine sv_iload_n (pc := 41) 3 (sv_d k_X_truck 21 rfl) rfl rfl ?_
      refine sv_iload_n (pc := 42) 4 (sv_d k_X_truck 22 rfl) rfl rfl ?_
      refine sv_iload (pc := 43) 5 (sv_d k_X_truck 23 rfl) rfl ?_
      refine sv_iload (pc := 45) 6 (sv_d k_X_truck 24 rfl) rfl ?_
      refine sv_callV (pc := 47) (ψ := ss_i) (As := [.int x1, .int x2, .int x3, .int x4, .int x5]) (rest := []) (c := 151) (sv_d k_X_truck 25 rfl) g_Tr_add w944 in_Tr_add se_Tr_add cf9 kd151 (ss_lt (by decide)) rfl (Nat.le_of_ble_eq_true rfl) (V_Tr_add E (d + 1) x1 x2 x3 x4 x5 s) (Nat.le_of_ble_eq_true rfl) rfl (fun r3 => ?_)
      show sv_V E _ _ _ 50 _ [.int r3.1] (ss_e r3.2) _
      exact sv_ret (pc := 50) (sv_d k_X_truck 26 rfl) ⟨_, rfl, rfl⟩ rfl
    · refine sv_bipush (pc := 31) (v := (-4 : Int32)) (sv_d k_X_truck 16 rfl) (by decide) ?_
      refine sv_goto (pc := 33) (tgt := 50) (sv_d k_X_truck 17 rfl) (by decide) ?_
      exact sv_ret (pc := 50) (sv_d k_X_truck 26 rfl) ⟨_, rfl, rfl⟩ rfl
  · refine sv_iload (pc := 18) 0 (sv_d k_X_truck 10 rfl) rfl ?_
    exact sv_ret (pc := 20) (sv_d k_X_truck 11 rfl) ⟨_, rfl, rfl⟩ rfl
/-! X_book -/
abbrev m_X_book : sv_M := (yX11_book, cX11_book, 6, (some .int))
def t_X_book : List (Nat × Instr × Nat) := [(0, .iload_n 1, 1), (1, .invokestatic 247, 3), (4, .ifCond .ne 5, 3), (7, .iconst (-1), 1), (8, .ireturn, 1), (9, .iload_n 3, 1), (10, .iconst 1, 1), (11, .if_icmp .lt 9, 3), (14, .iload_n 3, 1), (15, .bipush 16, 2), (17, .if_icmp .le 6, 3), (20, .bipush (-2), 2), (22, .ireturn, 1), (23, .aload_n 0, 1), (24, .getfield 78, 3), (27, .getfield 250, 3), (30, .iload_n 1, 1), (31, .iaload, 1), (32, .istore 4, 2), (34, .iload 4, 2), (36, .iconst (-1), 1), (37, .if_icmp .eq 12, 3), (40, .iload 4, 2), (42, .iconst 2, 1), (43, .if_icmp .eq 6, 3), (46, .bipush (-12), 2), (48, .ireturn, 1), (49, .aload_n 0, 1), (50, .iconst 0, 1), (51, .putfield 82, 3), (54, .iconst 0, 1), (55, .istore 5, 2), (57, .iload 5, 2), (59, .iload_n 3, 1), (60, .if_icmp .ge 38, 3), (63, .aload_n 0, 1), (64, .aload_n 0, 1), (65, .iload_n 1, 1), (66, .iload_n 2, 1), (67, .i2l, 1), (68, .ldc2_w 254, 3), (71, .iload 5, 2), (73, .i2l, 1), (74, .lmul, 1), (75, .ladd, 1), (76, .invokevirtual 256, 3), (79, .putfield 82, 3), (82, .aload_n 0, 1), (83, .getfield 82, 3), (86, .ifCond .eq 6, 3), (89, .iload 5, 2), (91, .ireturn, 1), (92, .iinc 5 1, 3), (95, .goto (-38), 3), (98, .iload_n 3, 1), (99, .ireturn, 1)]
theorem k_X_book : sv_tk m_X_book.2.1 t_X_book := by decide +kernel
theorem g_X_book : sv_G m_X_book 3 := ⟨by decide +kernel, sv_in 951 (by decide +kernel) rfl, sv_in 90 (by decide +kernel) rfl, ⟨by decide, by decide⟩, by decide +kernel, by decide⟩
theorem in_X_book : Cond.instanceMethod m_X_book.1 ∈ sv_T := sv_in 949 (by decide +kernel) rfl
theorem se_X_book : Cond.selects m_X_book.1.cls m_X_book.1 m_X_book.1 ∈ sv_T := sv_in 950 (by decide +kernel) rfl
def F_X_book_b57 : Nat → Int32 → Int32 → Int32 → Int32 → sv_S → Option (Int32 × sv_S)
  | 0 => fun _ _ _ _ _ => none
  | n + 1 => fun x1 x2 x3 x5 s =>
    if x3 ≤ x5 then
      some (x3, s)
    else
    (F_X_bookRow x1 (x2.toInt64 + ((5 : Int64) * x5.toInt64)) s).bind fun r4 =>
    ss_let (ss_setI r4.2 64 10 r4.1) fun s5 =>
    if (s5.1 64 10) = 0 then
      ss_let (x5 + (1 : Int32)) fun v6 =>
      F_X_book_b57  n x1 x2 x3 v6 s5
    else
    some (x5, s5)
theorem V_X_book_b57 (E : sv_E) (d : Nat) : ∀ (n : Nat) (x1 : Int32) (x2 : Int32) (x3 : Int32) (x5 : Int32) (s : sv_S), sv_V E m_X_book (d + 3) ss_i 57 [(0, sv_r E 64), (1, .int x1), (2, .int x2), (3, .int x3), (5, .int x5)] [] (ss_e s) (F_X_book_b57 n x1 x2 x3 x5 s) := by
  intro n
  induction n with
  | zero => intro x1 x2 x3 x5 s; exact sv_none
  | succ n ih =>
    intro x1 x2 x3 x5 s
    unfold F_X_book_b57
    refine sv_iload (pc := 57) 4 (sv_d k_X_book 32 rfl) rfl ?_
    refine sv_iload_n (pc := 59) 3 (sv_d k_X_book 33 rfl) rfl rfl ?_
    refine sv_icmp_ge (pc := 60) (tgt := 98) (sv_d k_X_book 34 rfl) (by decide) ?_ ?_
    · refine sv_iload_n (pc := 98) 3 (sv_d k_X_book 54 rfl) rfl rfl ?_
      exact sv_ret (pc := 99) (sv_d k_X_book 55 rfl) ⟨_, rfl, rfl⟩ rfl
    · refine sv_aload_n (pc := 63) 0 (sv_d k_X_book 35 rfl) rfl rfl ?_
      refine sv_aload_n (pc := 64) 0 (sv_d k_X_book 36 rfl) rfl rfl ?_
      refine sv_iload_n (pc := 65) 1 (sv_d k_X_book 37 rfl) rfl rfl ?_
      refine sv_iload_n (pc := 66) 2 (sv_d k_X_book 38 rfl) rfl rfl ?_
      refine sv_i2l (pc := 67) (sv_d k_X_book 39 rfl) ?_
      refine sv_ldc2 (pc := 68) (v := (5 : Int64)) w955 (sv_d k_X_book 40 rfl) ?_
      refine sv_iload (pc := 71) 4 (sv_d k_X_book 41 rfl) rfl ?_
      refine sv_i2l (pc := 73) (sv_d k_X_book 42 rfl) ?_
      refine sv_lmul (pc := 74) (sv_d k_X_book 43 rfl) ?_
      refine sv_ladd (pc := 75) (sv_d k_X_book 44 rfl) ?_
      refine sv_callV (pc := 76) (ψ := ss_i) (As := [.int x1, .long (x2.toInt64 + ((5 : Int64) * x5.toInt64))]) (rest := [sv_r E 64]) (c := 64) (sv_d k_X_book 45 rfl) g_X_bookRow w956 in_X_bookRow se_X_bookRow cf11 kd64 (ss_lt (by decide)) rfl (Nat.le_of_ble_eq_true rfl) (V_X_bookRow E (d + 0) x1 (x2.toInt64 + ((5 : Int64) * x5.toInt64)) s) (Nat.le_of_ble_eq_true rfl) rfl (fun r4 => ?_)
      show sv_V E _ _ _ 79 _ [.int r4.1, sv_r E 64] (ss_e r4.2) _
      refine ss_putI (pc := 79) 10 (sv_d k_X_book 46 rfl) cf11 (by decide) rfl w526 kd64 (ss_lt (by decide)) rfl rfl (fun _ => rfl) (ss_lets (fun s5 e_s5 => ?_))
      refine sv_aload_n (pc := 82) 0 (sv_d k_X_book 47 rfl) rfl rfl ?_
      refine sv_getf (pc := 83) 10 (sv_d k_X_book 48 rfl) cf11 (by decide) w526 kd64 (ss_lt (by decide)) rfl ?_
      refine sv_if_eq (pc := 86) (tgt := 92) (sv_d k_X_book 49 rfl) (by decide) ?_ ?_
      · refine ss_letr (fun v6 e_v6 => ?_)
        refine sv_iinc (pc := 92) (v := v6) (lv' := [(5, .int v6), (0, sv_r E 64), (1, .int x1), (2, .int x2), (3, .int x3)]) (sv_d k_X_book 52 rfl) (n := 4) rfl (by rw [e_v6]; rfl) (by decide) rfl ?_
        refine sv_goto (pc := 95) (tgt := 57) (sv_d k_X_book 53 rfl) (by decide) ?_
        exact sv_loc [1, 2, 3, 4, 0] rfl (ih x1 x2 x3 v6 s5)
      · refine sv_iload (pc := 89) 4 (sv_d k_X_book 50 rfl) rfl ?_
        exact sv_ret (pc := 91) (sv_d k_X_book 51 rfl) ⟨_, rfl, rfl⟩ rfl
def F_X_book_b49 (x1 : Int32) (x2 : Int32) (x3 : Int32) (s : sv_S) : Option (Int32 × sv_S) :=
  ss_let (ss_setI s 64 10 (0 : Int32)) fun s3 =>
  F_X_book_b57 ss_F x1 x2 x3 (0 : Int32) s3
theorem V_X_book_b49 (E : sv_E) (d : Nat) (x1 : Int32) (x2 : Int32) (x3 : Int32) (s : sv_S) : sv_V E m_X_book (d + 3) ss_i 49 [(0, sv_r E 64), (1, .int x1), (2, .int x2), (3, .int x3)] [] (ss_e s) (F_X_book_b49 x1 x2 x3 s) := by
  unfold F_X_book_b49
  refine sv_aload_n (pc := 49) 0 (sv_d k_X_book 27 rfl) rfl rfl ?_
  refine sv_iconst (pc := 50) (v := (0 : Int32)) (sv_d k_X_book 28 rfl) (by decide) ?_
  refine ss_putI (pc := 51) 10 (sv_d k_X_book 29 rfl) cf11 (by decide) rfl w526 kd64 (ss_lt (by decide)) rfl rfl (fun _ => rfl) (ss_lets (fun s3 e_s3 => ?_))
  refine sv_iconst (pc := 54) (v := (0 : Int32)) (sv_d k_X_book 30 rfl) (by decide) ?_
  refine sv_istore (pc := 55) (lv' := [(5, .int (0 : Int32)), (0, sv_r E 64), (1, .int x1), (2, .int x2), (3, .int x3)]) (sv_d k_X_book 31 rfl) (by decide) rfl ?_
  exact sv_loc [1, 2, 3, 4, 0] rfl (V_X_book_b57 E d ss_F x1 x2 x3 (0 : Int32) s3)
def F_X_book (x1 : Int32) (x2 : Int32) (x3 : Int32) (s : sv_S) : Option (Int32 × sv_S) :=
  (F_X_isTape x1 s).bind fun r1 =>
  if r1 = 0 then
    some ((-1 : Int32), s)
  else
  if x3 < (1 : Int32) then
    some ((-2 : Int32), s)
  else
  if x3 ≤ (16 : Int32) then
    if sv_ib x1 6 = true then
      ss_let (s.1 178 x1.toNatClampNeg) fun v2 =>
      if v2 = (-1 : Int32) then
        F_X_book_b49 x1 x2 x3 s
      else
      if v2 = (2 : Int32) then
        F_X_book_b49 x1 x2 x3 s
      else
      some ((-12 : Int32), s)
    else none
  else
  some ((-2 : Int32), s)
theorem V_X_book (E : sv_E) (d : Nat) (x1 : Int32) (x2 : Int32) (x3 : Int32) (s : sv_S) : sv_V E m_X_book (d + 3) ss_i 0 (lv_args 0 [sv_r E 64, .int x1, .int x2, .int x3]) [] (ss_e s) (F_X_book x1 x2 x3 s) := by
  show sv_V E m_X_book (d + 3) ss_i 0 [(0, sv_r E 64), (1, .int x1), (2, .int x2), (3, .int x3)] [] (ss_e s) _
  unfold F_X_book
  refine sv_iload_n (pc := 0) 1 (sv_d k_X_book 0 rfl) rfl rfl ?_
  refine sv_callS (pc := 1) (ψ := (ss_pi s)) (As := [.int x1]) (rest := []) (sv_d k_X_book 1 rfl) g_X_isTape w952 st_X_isTape rfl (Nat.le_of_ble_eq_true rfl) (V_X_isTape E (d + 2) x1 s) (Nat.le_of_ble_eq_true rfl) rfl (fun r1 => ?_)
  show sv_V E _ _ _ 4 _ [.int r1] (ss_e s) _
  refine sv_if_ne (pc := 4) (tgt := 9) (sv_d k_X_book 2 rfl) (by decide) ?_ ?_
  · refine sv_iload_n (pc := 9) 3 (sv_d k_X_book 5 rfl) rfl rfl ?_
    refine sv_iconst (pc := 10) (v := (1 : Int32)) (sv_d k_X_book 6 rfl) (by decide) ?_
    refine sv_icmp_lt (pc := 11) (tgt := 20) (sv_d k_X_book 7 rfl) (by decide) ?_ ?_
    · refine sv_bipush (pc := 20) (v := (-2 : Int32)) (sv_d k_X_book 11 rfl) (by decide) ?_
      exact sv_ret (pc := 22) (sv_d k_X_book 12 rfl) ⟨_, rfl, rfl⟩ rfl
    · refine sv_iload_n (pc := 14) 3 (sv_d k_X_book 8 rfl) rfl rfl ?_
      refine sv_bipush (pc := 15) (v := (16 : Int32)) (sv_d k_X_book 9 rfl) (by decide) ?_
      refine sv_icmp_le (pc := 17) (tgt := 23) (sv_d k_X_book 10 rfl) (by decide) ?_ ?_
      · refine sv_aload_n (pc := 23) 0 (sv_d k_X_book 13 rfl) rfl rfl ?_
        refine sv_getf (pc := 24) 8 (sv_d k_X_book 14 rfl) cf11 (by decide) w524 kd64 (ss_lt (by decide)) (lr_64_8 E _) ?_
        refine sv_getN (pc := 27) 0 (sv_d k_X_book 15 rfl) cf8 (by decide) w503 kd177 (ss_lt (by decide)) (lr_177_0 E _) ?_
        refine sv_iload_n (pc := 30) 1 (sv_d k_X_book 16 rfl) rfl rfl ?_
        refine ss_iald (pc := 31) (n := 6) (sv_d k_X_book 17 rfl) kd178 (ss_lt (by decide)) rfl ?_
        refine ss_top (fun v2 e_v2 => ?_)
        refine sv_istore (pc := 32) (lv' := [(4, .int v2), (0, sv_r E 64), (1, .int x1), (2, .int x2), (3, .int x3)]) (sv_d k_X_book 18 rfl) (by decide) rfl ?_
        refine sv_iload (pc := 34) 0 (sv_d k_X_book 19 rfl) rfl ?_
        refine sv_iconst (pc := 36) (v := (-1 : Int32)) (sv_d k_X_book 20 rfl) (by decide) ?_
        refine sv_icmp_eq (pc := 37) (tgt := 49) (sv_d k_X_book 21 rfl) (by decide) ?_ ?_
        · exact sv_loc [1, 2, 3, 4] rfl (V_X_book_b49 E d x1 x2 x3 s)
        · refine sv_iload (pc := 40) 0 (sv_d k_X_book 22 rfl) rfl ?_
          refine sv_iconst (pc := 42) (v := (2 : Int32)) (sv_d k_X_book 23 rfl) (by decide) ?_
          refine sv_icmp_eq (pc := 43) (tgt := 49) (sv_d k_X_book 24 rfl) (by decide) ?_ ?_
          · exact sv_loc [1, 2, 3, 4] rfl (V_X_book_b49 E d x1 x2 x3 s)
          · refine sv_bipush (pc := 46) (v := (-12 : Int32)) (sv_d k_X_book 25 rfl) (by decide) ?_
            exact sv_ret (pc := 48) (sv_d k_X_book 26 rfl) ⟨_, rfl, rfl⟩ rfl
      · refine sv_bipush (pc := 20) (v := (-2 : Int32)) (sv_d k_X_book 11 rfl) (by decide) ?_
        exact sv_ret (pc := 22) (sv_d k_X_book 12 rfl) ⟨_, rfl, rfl⟩ rfl
  · refine sv_iconst (pc := 7) (v := (-1 : Int32)) (sv_d k_X_book 3 rfl) (by decide) ?_
    exact sv_ret (pc := 8) (sv_d k_X_book 4 rfl) ⟨_, rfl, rfl⟩ rfl
/-! X_ended -/
abbrev m_X_ended : sv_M := (yX11_ended, cX11_ended, 1, (some .int))
def t_X_ended : List (Nat × Instr × Nat) := [(0, .aload_n 0, 1), (1, .getfield 82, 3), (4, .ireturn, 1)]
theorem k_X_ended : sv_tk m_X_ended.2.1 t_X_ended := by decide +kernel
theorem g_X_ended : sv_G m_X_ended 0 := ⟨by decide +kernel, sv_in 963 (by decide +kernel) rfl, sv_in 90 (by decide +kernel) rfl, ⟨by decide, by decide⟩, by decide +kernel, by decide⟩
theorem in_X_ended : Cond.instanceMethod m_X_ended.1 ∈ sv_T := sv_in 961 (by decide +kernel) rfl
theorem se_X_ended : Cond.selects m_X_ended.1.cls m_X_ended.1 m_X_ended.1 ∈ sv_T := sv_in 962 (by decide +kernel) rfl
def F_X_ended (s : sv_S) : Option (Int32) :=
  some (s.1 64 10)
theorem V_X_ended (E : sv_E) (d : Nat) (s : sv_S) : sv_V E m_X_ended (d + 0) (ss_pi s) 0 (lv_args 0 [sv_r E 64]) [] (ss_e s) (F_X_ended s) := by
  show sv_V E m_X_ended (d + 0) (ss_pi s) 0 [(0, sv_r E 64)] [] (ss_e s) _
  unfold F_X_ended
  refine sv_aload_n (pc := 0) 0 (sv_d k_X_ended 0 rfl) rfl rfl ?_
  refine sv_getf (pc := 1) 10 (sv_d k_X_ended 1 rfl) cf11 (by decide) w526 kd64 (ss_lt (by decide)) rfl ?_
  exact sv_ret (pc := 4) (sv_d k_X_ended 2 rfl) ⟨_, rfl, rfl⟩ rfl
/-! X_due -/
abbrev m_X_due : sv_M := (yX11_due, cX11_due, 3, (some .int))
def t_X_due : List (Nat × Instr × Nat) := [(0, .aload_n 0, 1), (1, .getfield 46, 3), (4, .iload_n 1, 1), (5, .invokevirtual 260, 3), (8, .ifCond .ne 5, 3), (11, .iconst (-1), 1), (12, .ireturn, 1), (13, .aload_n 0, 1), (14, .getfield 46, 3), (17, .iload_n 1, 1), (18, .invokevirtual 261, 3), (21, .istore_n 2, 1), (22, .iload_n 2, 1), (23, .ifCond .ge 8, 3), (26, .bipush (-3), 2), (28, .goto 4, 3), (31, .iload_n 2, 1), (32, .ireturn, 1)]
theorem k_X_due : sv_tk m_X_due.2.1 t_X_due := by decide +kernel
theorem g_X_due : sv_G m_X_due 1 := ⟨by decide +kernel, sv_in 967 (by decide +kernel) rfl, sv_in 90 (by decide +kernel) rfl, ⟨by decide, by decide⟩, by decide +kernel, by decide⟩
theorem in_X_due : Cond.instanceMethod m_X_due.1 ∈ sv_T := sv_in 965 (by decide +kernel) rfl
theorem se_X_due : Cond.selects m_X_due.1.cls m_X_due.1 m_X_due.1 ∈ sv_T := sv_in 966 (by decide +kernel) rfl
def F_X_due (x1 : Int32) (s : sv_S) : Option (Int32 × sv_S) :=
  (F_Tr_has x1 s).bind fun r1 =>
  if r1 = 0 then
    some ((-1 : Int32), s)
  else
  (F_Tr_dueOf x1 s).bind fun r2 =>
  if 0 ≤ r2.1 then
    some (r2.1, r2.2)
  else
  some ((-3 : Int32), r2.2)
theorem V_X_due (E : sv_E) (d : Nat) (x1 : Int32) (s : sv_S) : sv_V E m_X_due (d + 4) ss_i 0 (lv_args 0 [sv_r E 64, .int x1]) [] (ss_e s) (F_X_due x1 s) := by
  show sv_V E m_X_due (d + 4) ss_i 0 [(0, sv_r E 64), (1, .int x1)] [] (ss_e s) _
  unfold F_X_due
  refine sv_aload_n (pc := 0) 0 (sv_d k_X_due 0 rfl) rfl rfl ?_
  refine sv_getf (pc := 1) 4 (sv_d k_X_due 1 rfl) cf11 (by decide) w520 kd64 (ss_lt (by decide)) (lr_64_4 E _) ?_
  refine sv_iload_n (pc := 4) 1 (sv_d k_X_due 2 rfl) rfl rfl ?_
  refine sv_callV (pc := 5) (ψ := (ss_pi s)) (As := [.int x1]) (rest := []) (c := 151) (sv_d k_X_due 3 rfl) g_Tr_has w968 in_Tr_has se_Tr_has cf9 kd151 (ss_lt (by decide)) rfl (Nat.le_of_ble_eq_true rfl) (V_Tr_has E (d + 3) x1 s) (Nat.le_of_ble_eq_true rfl) rfl (fun r1 => ?_)
  show sv_V E _ _ _ 8 _ [.int r1] (ss_e s) _
  refine sv_if_ne (pc := 8) (tgt := 13) (sv_d k_X_due 4 rfl) (by decide) ?_ ?_
  · refine sv_aload_n (pc := 13) 0 (sv_d k_X_due 7 rfl) rfl rfl ?_
    refine sv_getf (pc := 14) 4 (sv_d k_X_due 8 rfl) cf11 (by decide) w520 kd64 (ss_lt (by decide)) (lr_64_4 E _) ?_
    refine sv_iload_n (pc := 17) 1 (sv_d k_X_due 9 rfl) rfl rfl ?_
    refine sv_callV (pc := 18) (ψ := ss_i) (As := [.int x1]) (rest := []) (c := 151) (sv_d k_X_due 10 rfl) g_Tr_dueOf w972 in_Tr_dueOf se_Tr_dueOf cf9 kd151 (ss_lt (by decide)) rfl (Nat.le_of_ble_eq_true rfl) (V_Tr_dueOf E (d + 0) x1 s) (Nat.le_of_ble_eq_true rfl) rfl (fun r2 => ?_)
    show sv_V E _ _ _ 21 _ [.int r2.1] (ss_e r2.2) _
    refine sv_istore_n (pc := 21) (lv' := [(2, .int r2.1), (0, sv_r E 64), (1, .int x1)]) (sv_d k_X_due 11 rfl) rfl (by decide) rfl ?_
    refine sv_iload_n (pc := 22) 0 (sv_d k_X_due 12 rfl) rfl rfl ?_
    refine sv_if_ge (pc := 23) (tgt := 31) (sv_d k_X_due 13 rfl) (by decide) ?_ ?_
    · refine sv_iload_n (pc := 31) 0 (sv_d k_X_due 16 rfl) rfl rfl ?_
      exact sv_ret (pc := 32) (sv_d k_X_due 17 rfl) ⟨_, rfl, rfl⟩ rfl
    · refine sv_bipush (pc := 26) (v := (-3 : Int32)) (sv_d k_X_due 14 rfl) (by decide) ?_
      refine sv_goto (pc := 28) (tgt := 32) (sv_d k_X_due 15 rfl) (by decide) ?_
      exact sv_ret (pc := 32) (sv_d k_X_due 17 rfl) ⟨_, rfl, rfl⟩ rfl
  · refine sv_iconst (pc := 11) (v := (-1 : Int32)) (sv_d k_X_due 5 rfl) (by decide) ?_
    exact sv_ret (pc := 12) (sv_d k_X_due 6 rfl) ⟨_, rfl, rfl⟩ rfl
/-! X_unlike -/
abbrev m_X_unlike : sv_M := (yX11_unlike, cX11_unlike, 7, (some .int))
def t_X_unlike : List (Nat × Instr × Nat) := [(0, .aload_n 0, 1), (1, .getfield 46, 3), (4, .iload_n 1, 1), (5, .invokevirtual 260, 3), (8, .ifCond .eq 14, 3), (11, .aload_n 0, 1), (12, .getfield 46, 3), (15, .iload_n 2, 1), (16, .invokevirtual 260, 3), (19, .ifCond .ne 5, 3), (22, .iconst (-1), 1), (23, .ireturn, 1), (24, .iload_n 1, 1), (25, .iload_n 2, 1), (26, .if_icmp .ne 6, 3), (29, .bipush (-2), 2), (31, .ireturn, 1), (32, .iload_n 3, 1), (33, .ifCond .lt 8, 3), (36, .iload_n 3, 1), (37, .iconst 1, 1), (38, .if_icmp .le 5, 3), (41, .iconst (-1), 1), (42, .ireturn, 1), (43, .iload_n 1, 1), (44, .iload_n 2, 1), (45, .invokestatic 264, 3), (48, .istore 4, 2), (50, .iload_n 1, 1), (51, .iload_n 2, 1), (52, .invokestatic 160, 3), (55, .istore 5, 2), (57, .iload_n 3, 1), (58, .ifCond .ne 17, 3), (61, .aload_n 0, 1), (62, .getfield 46, 3), (65, .iload 4, 2), (67, .iload 5, 2), (69, .invokevirtual 267, 3), (72, .goto 14, 3), (75, .aload_n 0, 1), (76, .getfield 46, 3), (79, .iload 4, 2), (81, .iload 5, 2), (83, .invokevirtual 270, 3), (86, .istore 6, 2), (88, .iload 6, 2), (90, .ifCond .eq 7, 3), (93, .iconst 1, 1), (94, .goto 4, 3), (97, .iconst 0, 1), (98, .ireturn, 1)]
theorem k_X_unlike : sv_tk m_X_unlike.2.1 t_X_unlike := by decide +kernel
theorem g_X_unlike : sv_G m_X_unlike 3 := ⟨by decide +kernel, sv_in 985 (by decide +kernel) rfl, sv_in 90 (by decide +kernel) rfl, ⟨by decide, by decide⟩, by decide +kernel, by decide⟩
theorem in_X_unlike : Cond.instanceMethod m_X_unlike.1 ∈ sv_T := sv_in 983 (by decide +kernel) rfl
theorem se_X_unlike : Cond.selects m_X_unlike.1.cls m_X_unlike.1 m_X_unlike.1 ∈ sv_T := sv_in 984 (by decide +kernel) rfl
def F_X_unlike (x1 : Int32) (x2 : Int32) (x3 : Int32) (s : sv_S) : Option (Int32 × sv_S) :=
  (F_Tr_has x1 s).bind fun r1 =>
  if r1 = 0 then
    some ((-1 : Int32), s)
  else
  (F_Tr_has x2 s).bind fun r2 =>
  if r2 = 0 then
    some ((-1 : Int32), s)
  else
  if x1 = x2 then
    some ((-2 : Int32), s)
  else
  if x3 < 0 then
    some ((-1 : Int32), s)
  else
  if x3 ≤ (1 : Int32) then
    (F_JM_min x1 x2 s).bind fun r3 =>
    (F_JM_max x1 x2 s).bind fun r4 =>
    if x3 = 0 then
      (F_Tr_areSame r3 r4 s).bind fun r6 =>
      if r6.1 = 0 then
        some ((0 : Int32), r6.2)
      else
      some ((1 : Int32), r6.2)
    else
    (F_Tr_areUnlike r3 r4 s).bind fun r5 =>
    if r5.1 = 0 then
      some ((0 : Int32), r5.2)
    else
    some ((1 : Int32), r5.2)
  else
  some ((-1 : Int32), s)
theorem V_X_unlike (E : sv_E) (d : Nat) (x1 : Int32) (x2 : Int32) (x3 : Int32) (s : sv_S) : sv_V E m_X_unlike (d + 5) ss_i 0 (lv_args 0 [sv_r E 64, .int x1, .int x2, .int x3]) [] (ss_e s) (F_X_unlike x1 x2 x3 s) := by
  show sv_V E m_X_unlike (d + 5) ss_i 0 [(0, sv_r E 64), (1, .int x1), (2, .int x2), (3, .int x3)] [] (ss_e s) _
  unfold F_X_unlike
  refine sv_aload_n (pc := 0) 0 (sv_d k_X_unlike 0 rfl) rfl rfl ?_
  refine sv_getf (pc := 1) 4 (sv_d k_X_unlike 1 rfl) cf11 (by decide) w520 kd64 (ss_lt (by decide)) (lr_64_4 E _) ?_
  refine sv_iload_n (pc := 4) 1 (sv_d k_X_unlike 2 rfl) rfl rfl ?_
  refine sv_callV (pc := 5) (ψ := (ss_pi s)) (As := [.int x1]) (rest := []) (c := 151) (sv_d k_X_unlike 3 rfl) g_Tr_has w968 in_Tr_has se_Tr_has cf9 kd151 (ss_lt (by decide)) rfl (Nat.le_of_ble_eq_true rfl) (V_Tr_has E (d + 4) x1 s) (Nat.le_of_ble_eq_true rfl) rfl (fun r1 => ?_)
  show sv_V E _ _ _ 8 _ [.int r1] (ss_e s) _
  refine sv_if_eq (pc := 8) (tgt := 22) (sv_d k_X_unlike 4 rfl) (by decide) ?_ ?_
  · refine sv_iconst (pc := 22) (v := (-1 : Int32)) (sv_d k_X_unlike 10 rfl) (by decide) ?_
    exact sv_ret (pc := 23) (sv_d k_X_unlike 11 rfl) ⟨_, rfl, rfl⟩ rfl
  · refine sv_aload_n (pc := 11) 0 (sv_d k_X_unlike 5 rfl) rfl rfl ?_
    refine sv_getf (pc := 12) 4 (sv_d k_X_unlike 6 rfl) cf11 (by decide) w520 kd64 (ss_lt (by decide)) (lr_64_4 E _) ?_
    refine sv_iload_n (pc := 15) 2 (sv_d k_X_unlike 7 rfl) rfl rfl ?_
    refine sv_callV (pc := 16) (ψ := (ss_pi s)) (As := [.int x2]) (rest := []) (c := 151) (sv_d k_X_unlike 8 rfl) g_Tr_has w968 in_Tr_has se_Tr_has cf9 kd151 (ss_lt (by decide)) rfl (Nat.le_of_ble_eq_true rfl) (V_Tr_has E (d + 4) x2 s) (Nat.le_of_ble_eq_true rfl) rfl (fun r2 => ?_)
    show sv_V E _ _ _ 19 _ [.int r2] (ss_e s) _
    refine sv_if_ne (pc := 19) (tgt := 24) (sv_d k_X_unlike 9 rfl) (by decide) ?_ ?_
    · refine sv_iload_n (pc := 24) 1 (sv_d k_X_unlike 12 rfl) rfl rfl ?_
      refine sv_iload_n (pc := 25) 2 (sv_d k_X_unlike 13 rfl) rfl rfl ?_
      refine sv_icmp_ne (pc := 26) (tgt := 32) (sv_d k_X_unlike 14 rfl) (by decide) ?_ ?_
      · refine sv_iload_n (pc := 32) 3 (sv_d k_X_unlike 17 rfl) rfl rfl ?_
        refine sv_if_lt (pc := 33) (tgt := 41) (sv_d k_X_unlike 18 rfl) (by decide) ?_ ?_
        · refine sv_iconst (pc := 41) (v := (-1 : Int32)) (sv_d k_X_unlike 22 rfl) (by decide) ?_
          exact sv_ret (pc := 42) (sv_d k_X_unlike 23 rfl) ⟨_, rfl, rfl⟩ rfl
        · refine sv_iload_n (pc := 36) 3 (sv_d k_X_unlike 19 rfl) rfl rfl ?_
          refine sv_iconst (pc := 37) (v := (1 : Int32)) (sv_d k_X_unlike 20 rfl) (by decide) ?_
          refine sv_icmp_le (pc := 38) (tgt := 43) (sv_d k_X_unlike 21 rfl) (by decide) ?_ ?_
          · refine sv_iload_n (pc := 43) 1 (sv_d k_X_unlike 24 rfl) rfl rfl ?_
            refine sv_iload_n (pc := 44) 2 (sv_d k_X_unlike 25 rfl) rfl rfl ?_
            refine sv_callS (pc := 45) (ψ := (ss_pi s)) (As := [.int x1, .int x2]) (rest := []) (sv_d k_X_unlike 26 rfl) g_JM_min w986 st_JM_min rfl (Nat.le_of_ble_eq_true rfl) (V_JM_min E (d + 4) x1 x2 s) (Nat.le_of_ble_eq_true rfl) rfl (fun r3 => ?_)
            show sv_V E _ _ _ 48 _ [.int r3] (ss_e s) _
            refine sv_istore (pc := 48) (lv' := [(4, .int r3), (0, sv_r E 64), (1, .int x1), (2, .int x2), (3, .int x3)]) (sv_d k_X_unlike 27 rfl) (by decide) rfl ?_
            refine sv_iload_n (pc := 50) 2 (sv_d k_X_unlike 28 rfl) rfl rfl ?_
            refine sv_iload_n (pc := 51) 3 (sv_d k_X_unlike 29 rfl) rfl rfl ?_
            refine sv_callS (pc := 52) (ψ := (ss_pi s)) (As := [.int x1, .int x2]) (rest := []) (sv_d k_X_unlike 30 rfl) g_JM_max w819 st_JM_max rfl (Nat.le_of_ble_eq_true rfl) (V_JM_max E (d + 4) x1 x2 s) (Nat.le_of_ble_eq_true rfl) rfl (fun r4 => ?_)
            show sv_V E _ _ _ 55 _ [.int r4] (ss_e s) _
            refine sv_istore (pc := 55) (lv' := [(5, .int r4), (4, .int r3), (0, sv_r E 64), (1, .int x1), (2, .int x2), (3, .int x3)]) (sv_d k_X_unlike 31 rfl) (by decide) rfl ?_
            refine sv_iload_n (pc := 57) 5 (sv_d k_X_unlike 32 rfl) rfl rfl ?_
            refine sv_if_ne (pc := 58) (tgt := 75) (sv_d k_X_unlike 33 rfl) (by decide) ?_ ?_
            · refine sv_aload_n (pc := 75) 2 (sv_d k_X_unlike 40 rfl) rfl rfl ?_
              refine sv_getf (pc := 76) 4 (sv_d k_X_unlike 41 rfl) cf11 (by decide) w520 kd64 (ss_lt (by decide)) (lr_64_4 E _) ?_
              refine sv_iload (pc := 79) 1 (sv_d k_X_unlike 42 rfl) rfl ?_
              refine sv_iload (pc := 81) 0 (sv_d k_X_unlike 43 rfl) rfl ?_
              refine sv_callV (pc := 83) (ψ := ss_i) (As := [.int r3, .int r4]) (rest := []) (c := 151) (sv_d k_X_unlike 44 rfl) g_Tr_areUnlike w1015 in_Tr_areUnlike se_Tr_areUnlike cf9 kd151 (ss_lt (by decide)) rfl (Nat.le_of_ble_eq_true rfl) (V_Tr_areUnlike E (d + 0) r3 r4 s) (Nat.le_of_ble_eq_true rfl) rfl (fun r5 => ?_)
              show sv_V E _ _ _ 86 _ [.int r5.1] (ss_e r5.2) _
              refine sv_istore (pc := 86) (lv' := [(6, .int r5.1), (5, .int r4), (4, .int r3), (0, sv_r E 64), (1, .int x1), (2, .int x2), (3, .int x3)]) (sv_d k_X_unlike 45 rfl) (by decide) rfl ?_
              refine sv_iload (pc := 88) 0 (sv_d k_X_unlike 46 rfl) rfl ?_
              refine sv_if_eq (pc := 90) (tgt := 97) (sv_d k_X_unlike 47 rfl) (by decide) ?_ ?_
              · refine sv_iconst (pc := 97) (v := (0 : Int32)) (sv_d k_X_unlike 50 rfl) (by decide) ?_
                exact sv_ret (pc := 98) (sv_d k_X_unlike 51 rfl) ⟨_, rfl, rfl⟩ rfl
              · refine sv_iconst (pc := 93) (v := (1 : Int32)) (sv_d k_X_unlike 48 rfl) (by decide) ?_
                refine sv_goto (pc := 94) (tgt := 98) (sv_d k_X_unlike 49 rfl) (by decide) ?_
                exact sv_ret (pc := 98) (sv_d k_X_unlike 51 rfl) ⟨_, rfl, rfl⟩ rfl
            · refine sv_aload_n (pc := 61) 2 (sv_d k_X_unlike 34 rfl) rfl rfl ?_
              refine sv_getf (pc := 62) 4 (sv_d k_X_unlike 35 rfl) cf11 (by decide) w520 kd64 (ss_lt (by decide)) (lr_64_4 E _) ?_
              refine sv_iload (pc := 65) 1 (sv_d k_X_unlike 36 rfl) rfl ?_
              refine sv_iload (pc := 67) 0 (sv_d k_X_unlike 37 rfl) rfl ?_
              refine sv_callV (pc := 69) (ψ := ss_i) (As := [.int r3, .int r4]) (rest := []) (c := 151) (sv_d k_X_unlike 38 rfl) g_Tr_areSame w987 in_Tr_areSame se_Tr_areSame cf9 kd151 (ss_lt (by decide)) rfl (Nat.le_of_ble_eq_true rfl) (V_Tr_areSame E (d + 1) r3 r4 s) (Nat.le_of_ble_eq_true rfl) rfl (fun r6 => ?_)
              show sv_V E _ _ _ 72 _ [.int r6.1] (ss_e r6.2) _
              refine sv_goto (pc := 72) (tgt := 86) (sv_d k_X_unlike 39 rfl) (by decide) ?_
              refine sv_istore (pc := 86) (lv' := [(6, .int r6.1), (5, .int r4), (4, .int r3), (0, sv_r E 64), (1, .int x1), (2, .int x2), (3, .int x3)]) (sv_d k_X_unlike 45 rfl) (by decide) rfl ?_
              refine sv_iload (pc := 88) 0 (sv_d k_X_unlike 46 rfl) rfl ?_
              refine sv_if_eq (pc := 90) (tgt := 97) (sv_d k_X_unlike 47 rfl) (by decide) ?_ ?_
              · refine sv_iconst (pc := 97) (v := (0 : Int32)) (sv_d k_X_unlike 50 rfl) (by decide) ?_
                exact sv_ret (pc := 98) (sv_d k_X_unlike 51 rfl) ⟨_, rfl, rfl⟩ rfl
              · refine sv_iconst (pc := 93) (v := (1 : Int32)) (sv_d k_X_unlike 48 rfl) (by decide) ?_
                refine sv_goto (pc := 94) (tgt := 98) (sv_d k_X_unlike 49 rfl) (by decide) ?_
                exact sv_ret (pc := 98) (sv_d k_X_unlike 51 rfl) ⟨_, rfl, rfl⟩ rfl
          · refine sv_iconst (pc := 41) (v := (-1 : Int32)) (sv_d k_X_unlike 22 rfl) (by decide) ?_
            exact sv_ret (pc := 42) (sv_d k_X_unlike 23 rfl) ⟨_, rfl, rfl⟩ rfl
      · refine sv_bipush (pc := 29) (v := (-2 : Int32)) (sv_d k_X_unlike 15 rfl) (by decide) ?_
        exact sv_ret (pc := 31) (sv_d k_X_unlike 16 rfl) ⟨_, rfl, rfl⟩ rfl
    · refine sv_iconst (pc := 22) (v := (-1 : Int32)) (sv_d k_X_unlike 10 rfl) (by decide) ?_
      exact sv_ret (pc := 23) (sv_d k_X_unlike 11 rfl) ⟨_, rfl, rfl⟩ rfl
/-! X_unlikes -/
abbrev m_X_unlikes : sv_M := (yX11_unlikes, cX11_unlikes, 2, (some .int))
def t_X_unlikes : List (Nat × Instr × Nat) := [(0, .iload_n 1, 1), (1, .ifCond .lt 8, 3), (4, .iload_n 1, 1), (5, .iconst 2, 1), (6, .if_icmp .le 5, 3), (9, .iconst (-1), 1), (10, .ireturn, 1), (11, .iload_n 1, 1), (12, .ifCond .ne 13, 3), (15, .aload_n 0, 1), (16, .getfield 46, 3), (19, .invokevirtual 273, 3), (22, .goto 20, 3), (25, .aload_n 0, 1), (26, .getfield 46, 3), (29, .iload_n 1, 1), (30, .iconst 2, 1), (31, .if_icmp .ne 7, 3), (34, .iconst 1, 1), (35, .goto 4, 3), (38, .iconst 0, 1), (39, .invokevirtual 276, 3), (42, .ireturn, 1)]
theorem k_X_unlikes : sv_tk m_X_unlikes.2.1 t_X_unlikes := by decide +kernel
theorem g_X_unlikes : sv_G m_X_unlikes 1 := ⟨by decide +kernel, sv_in 1023 (by decide +kernel) rfl, sv_in 90 (by decide +kernel) rfl, ⟨by decide, by decide⟩, by decide +kernel, by decide⟩
theorem in_X_unlikes : Cond.instanceMethod m_X_unlikes.1 ∈ sv_T := sv_in 1021 (by decide +kernel) rfl
theorem se_X_unlikes : Cond.selects m_X_unlikes.1.cls m_X_unlikes.1 m_X_unlikes.1 ∈ sv_T := sv_in 1022 (by decide +kernel) rfl
def F_X_unlikes (x1 : Int32) (s : sv_S) : Option (Int32 × sv_S) :=
  if x1 < 0 then
    some ((-1 : Int32), s)
  else
  if x1 ≤ (2 : Int32) then
    if x1 = 0 then
      (F_Tr_countUnlike s).bind fun r3 =>
      some (r3.1, r3.2)
    else
    if x1 = (2 : Int32) then
      (F_Tr_firstUnlike (1 : Int32) s).bind fun r2 =>
      some (r2.1, r2.2)
    else
    (F_Tr_firstUnlike (0 : Int32) s).bind fun r1 =>
    some (r1.1, r1.2)
  else
  some ((-1 : Int32), s)
theorem V_X_unlikes (E : sv_E) (d : Nat) (x1 : Int32) (s : sv_S) : sv_V E m_X_unlikes (d + 6) ss_i 0 (lv_args 0 [sv_r E 64, .int x1]) [] (ss_e s) (F_X_unlikes x1 s) := by
  show sv_V E m_X_unlikes (d + 6) ss_i 0 [(0, sv_r E 64), (1, .int x1)] [] (ss_e s) _
  unfold F_X_unlikes
  refine sv_iload_n (pc := 0) 1 (sv_d k_X_unlikes 0 rfl) rfl rfl ?_
  refine sv_if_lt (pc := 1) (tgt := 9) (sv_d k_X_unlikes 1 rfl) (by decide) ?_ ?_
  · refine sv_iconst (pc := 9) (v := (-1 : Int32)) (sv_d k_X_unlikes 5 rfl) (by decide) ?_
    exact sv_ret (pc := 10) (sv_d k_X_unlikes 6 rfl) ⟨_, rfl, rfl⟩ rfl
  · refine sv_iload_n (pc := 4) 1 (sv_d k_X_unlikes 2 rfl) rfl rfl ?_
    refine sv_iconst (pc := 5) (v := (2 : Int32)) (sv_d k_X_unlikes 3 rfl) (by decide) ?_
    refine sv_icmp_le (pc := 6) (tgt := 11) (sv_d k_X_unlikes 4 rfl) (by decide) ?_ ?_
    · refine sv_iload_n (pc := 11) 1 (sv_d k_X_unlikes 7 rfl) rfl rfl ?_
      refine sv_if_ne (pc := 12) (tgt := 25) (sv_d k_X_unlikes 8 rfl) (by decide) ?_ ?_
      · refine sv_aload_n (pc := 25) 0 (sv_d k_X_unlikes 13 rfl) rfl rfl ?_
        refine sv_getf (pc := 26) 4 (sv_d k_X_unlikes 14 rfl) cf11 (by decide) w520 kd64 (ss_lt (by decide)) (lr_64_4 E _) ?_
        refine sv_iload_n (pc := 29) 1 (sv_d k_X_unlikes 15 rfl) rfl rfl ?_
        refine sv_iconst (pc := 30) (v := (2 : Int32)) (sv_d k_X_unlikes 16 rfl) (by decide) ?_
        refine sv_icmp_ne (pc := 31) (tgt := 38) (sv_d k_X_unlikes 17 rfl) (by decide) ?_ ?_
        · refine sv_iconst (pc := 38) (v := (0 : Int32)) (sv_d k_X_unlikes 20 rfl) (by decide) ?_
          refine sv_callV (pc := 39) (ψ := ss_i) (As := [.int (0 : Int32)]) (rest := []) (c := 151) (sv_d k_X_unlikes 21 rfl) g_Tr_firstUnlike w1029 in_Tr_firstUnlike se_Tr_firstUnlike cf9 kd151 (ss_lt (by decide)) rfl (Nat.le_of_ble_eq_true rfl) (V_Tr_firstUnlike E (d + 0) (0 : Int32) s) (Nat.le_of_ble_eq_true rfl) rfl (fun r1 => ?_)
          show sv_V E _ _ _ 42 _ [.int r1.1] (ss_e r1.2) _
          exact sv_ret (pc := 42) (sv_d k_X_unlikes 22 rfl) ⟨_, rfl, rfl⟩ rfl
        · refine sv_iconst (pc := 34) (v := (1 : Int32)) (sv_d k_X_unlikes 18 rfl) (by decide) ?_
          refine sv_goto (pc := 35) (tgt := 39) (sv_d k_X_unlikes 19 rfl) (by decide) ?_
          refine sv_callV (pc := 39) (ψ := ss_i) (As := [.int (1 : Int32)]) (rest := []) (c := 151) (sv_d k_X_unlikes 21 rfl) g_Tr_firstUnlike w1029 in_Tr_firstUnlike se_Tr_firstUnlike cf9 kd151 (ss_lt (by decide)) rfl (Nat.le_of_ble_eq_true rfl) (V_Tr_firstUnlike E (d + 0) (1 : Int32) s) (Nat.le_of_ble_eq_true rfl) rfl (fun r2 => ?_)
          show sv_V E _ _ _ 42 _ [.int r2.1] (ss_e r2.2) _
          exact sv_ret (pc := 42) (sv_d k_X_unlikes 22 rfl) ⟨_, rfl, rfl⟩ rfl
      · refine sv_aload_n (pc := 15) 0 (sv_d k_X_unlikes 9 rfl) rfl rfl ?_
        refine sv_getf (pc := 16) 4 (sv_d k_X_unlikes 10 rfl) cf11 (by decide) w520 kd64 (ss_lt (by decide)) (lr_64_4 E _) ?_
        refine sv_callV (pc := 19) (ψ := ss_i) (As := []) (rest := []) (c := 151) (sv_d k_X_unlikes 11 rfl) g_Tr_countUnlike w1024 in_Tr_countUnlike se_Tr_countUnlike cf9 kd151 (ss_lt (by decide)) rfl (Nat.le_of_ble_eq_true rfl) (V_Tr_countUnlike E (d + 0) s) (Nat.le_of_ble_eq_true rfl) rfl (fun r3 => ?_)
        show sv_V E _ _ _ 22 _ [.int r3.1] (ss_e r3.2) _
        refine sv_goto (pc := 22) (tgt := 42) (sv_d k_X_unlikes 12 rfl) (by decide) ?_
        exact sv_ret (pc := 42) (sv_d k_X_unlikes 22 rfl) ⟨_, rfl, rfl⟩ rfl
    · refine sv_iconst (pc := 9) (v := (-1 : Int32)) (sv_d k_X_unlikes 5 rfl) (by decide) ?_
      exact sv_ret (pc := 10) (sv_d k_X_unlikes 6 rfl) ⟨_, rfl, rfl⟩ rfl
/-! X_suit -/
abbrev m_X_suit : sv_M := (yX11_suit, cX11_suit, 2, (some .long))
def t_X_suit : List (Nat × Instr × Nat) := [(0, .iload_n 1, 1), (1, .invokestatic 280, 3), (4, .ifCond .eq 18, 3), (7, .aload_n 0, 1), (8, .getfield 46, 3), (11, .iload_n 1, 1), (12, .aload_n 0, 1), (13, .getfield 86, 3), (16, .invokevirtual 283, 3), (19, .goto 6, 3), (22, .ldc2_w 287, 3), (25, .lreturn, 1)]
theorem k_X_suit : sv_tk m_X_suit.2.1 t_X_suit := by decide +kernel
theorem g_X_suit : sv_G m_X_suit 1 := ⟨by decide +kernel, sv_in 1036 (by decide +kernel) rfl, sv_in 90 (by decide +kernel) rfl, ⟨by decide, by decide⟩, by decide +kernel, by decide⟩
theorem in_X_suit : Cond.instanceMethod m_X_suit.1 ∈ sv_T := sv_in 1034 (by decide +kernel) rfl
theorem se_X_suit : Cond.selects m_X_suit.1.cls m_X_suit.1 m_X_suit.1 ∈ sv_T := sv_in 1035 (by decide +kernel) rfl
def F_X_suit (x1 : Int32) (s : sv_S) : Option (Int64 × sv_S) :=
  (F_X_isStation x1 s).bind fun r1 =>
  if r1 = 0 then
    some ((-9223372036854775808 : Int64), s)
  else
  (F_Tr_claims x1 (s.1 64 9) s).bind fun r2 =>
  some (r2.1, r2.2)
theorem V_X_suit (E : sv_E) (d : Nat) (x1 : Int32) (s : sv_S) : sv_V E m_X_suit (d + 6) ss_l 0 (lv_args 0 [sv_r E 64, .int x1]) [] (ss_e s) (F_X_suit x1 s) := by
  show sv_V E m_X_suit (d + 6) ss_l 0 [(0, sv_r E 64), (1, .int x1)] [] (ss_e s) _
  unfold F_X_suit
  refine sv_iload_n (pc := 0) 1 (sv_d k_X_suit 0 rfl) rfl rfl ?_
  refine sv_callS (pc := 1) (ψ := (ss_pi s)) (As := [.int x1]) (rest := []) (sv_d k_X_suit 1 rfl) g_X_isStation w564 st_X_isStation rfl (Nat.le_of_ble_eq_true rfl) (V_X_isStation E (d + 5) x1 s) (Nat.le_of_ble_eq_true rfl) rfl (fun r1 => ?_)
  show sv_V E _ _ _ 4 _ [.int r1] (ss_e s) _
  refine sv_if_eq (pc := 4) (tgt := 22) (sv_d k_X_suit 2 rfl) (by decide) ?_ ?_
  · refine sv_ldc2 (pc := 22) (v := (-9223372036854775808 : Int64)) w1047 (sv_d k_X_suit 10 rfl) ?_
    exact sv_ret (pc := 25) (sv_d k_X_suit 11 rfl) ⟨_, rfl⟩ rfl
  · refine sv_aload_n (pc := 7) 0 (sv_d k_X_suit 3 rfl) rfl rfl ?_
    refine sv_getf (pc := 8) 4 (sv_d k_X_suit 4 rfl) cf11 (by decide) w520 kd64 (ss_lt (by decide)) (lr_64_4 E _) ?_
    refine sv_iload_n (pc := 11) 1 (sv_d k_X_suit 5 rfl) rfl rfl ?_
    refine sv_aload_n (pc := 12) 0 (sv_d k_X_suit 6 rfl) rfl rfl ?_
    refine sv_getf (pc := 13) 9 (sv_d k_X_suit 7 rfl) cf11 (by decide) w525 kd64 (ss_lt (by decide)) rfl ?_
    refine sv_callV (pc := 16) (ψ := ss_l) (As := [.int x1, .int (s.1 64 9)]) (rest := []) (c := 151) (sv_d k_X_suit 8 rfl) g_Tr_claims w1037 in_Tr_claims se_Tr_claims cf9 kd151 (ss_lt (by decide)) rfl (Nat.le_of_ble_eq_true rfl) (V_Tr_claims E (d + 0) x1 (s.1 64 9) s) (Nat.le_of_ble_eq_true rfl) rfl (fun r2 => ?_)
    show sv_V E _ _ _ 19 _ [.long r2.1] (ss_e r2.2) _
    refine sv_goto (pc := 19) (tgt := 25) (sv_d k_X_suit 9 rfl) (by decide) ?_
    exact sv_ret (pc := 25) (sv_d k_X_suit 11 rfl) ⟨_, rfl⟩ rfl
/-! X_cheap -/
abbrev m_X_cheap : sv_M := (yX11_cheap, cX11_cheap, 8, (some .int))
def t_X_cheap : List (Nat × Instr × Nat) := [(0, .iload_n 1, 1), (1, .iload_n 2, 1), (2, .invokestatic 93, 3), (5, .ifCond .eq 28, 3), (8, .iload_n 3, 1), (9, .invokestatic 168, 3), (12, .ifCond .eq 21, 3), (15, .iload 6, 2), (17, .ifCond .lt 16, 3), (20, .iload 6, 2), (22, .iconst 1, 1), (23, .if_icmp .le 12, 3), (26, .iload 6, 2), (28, .bipush 10, 2), (30, .if_icmp .ge 5, 3), (33, .iconst (-1), 1), (34, .ireturn, 1), (35, .iload_n 1, 1), (36, .iload_n 2, 1), (37, .if_icmp .eq 19, 3), (40, .iload 4, 2), (42, .invokestatic 171, 3), (45, .ifCond .eq 11, 3), (48, .iload 5, 2), (50, .invokestatic 122, 3), (53, .ifCond .ne 6, 3), (56, .bipush (-2), 2), (58, .ireturn, 1), (59, .aload_n 0, 1), (60, .getfield 55, 3), (63, .iload_n 3, 1), (64, .iload 4, 2), (66, .iload 5, 2), (68, .invokevirtual 289, 3), (71, .aload_n 0, 1), (72, .getfield 55, 3), (75, .iload_n 2, 1), (76, .invokevirtual 293, 3), (79, .aload_n 0, 1), (80, .getfield 55, 3), (83, .iload_n 1, 1), (84, .invokevirtual 296, 3), (87, .ifCond .ge 6, 3), (90, .bipush (-3), 2), (92, .ireturn, 1), (93, .iload 6, 2), (95, .ifCond .ne 12, 3), (98, .aload_n 0, 1), (99, .getfield 55, 3), (102, .iload_n 1, 1), (103, .invokevirtual 296, 3), (106, .ireturn, 1), (107, .aload_n 0, 1), (108, .getfield 55, 3), (111, .iload_n 1, 1), (112, .invokevirtual 299, 3), (115, .istore 7, 2), (117, .iload 6, 2), (119, .iconst 1, 1), (120, .if_icmp .ne 6, 3), (123, .iload 7, 2), (125, .ireturn, 1), (126, .iload 6, 2), (128, .bipush 10, 2), (130, .isub, 1), (131, .iload 7, 2), (133, .if_icmp .ge 19, 3), (136, .aload_n 0, 1), (137, .getfield 55, 3), (140, .iload_n 1, 1), (141, .iload 6, 2), (143, .bipush 10, 2), (145, .isub, 1), (146, .invokevirtual 302, 3), (149, .goto 4, 3), (152, .iconst (-1), 1), (153, .ireturn, 1)]
theorem k_X_cheap : sv_tk m_X_cheap.2.1 t_X_cheap := by decide +kernel
theorem g_X_cheap : sv_G m_X_cheap 6 := ⟨by decide +kernel, sv_in 1051 (by decide +kernel) rfl, sv_in 90 (by decide +kernel) rfl, ⟨by decide, by decide⟩, by decide +kernel, by decide⟩
theorem in_X_cheap : Cond.instanceMethod m_X_cheap.1 ∈ sv_T := sv_in 1049 (by decide +kernel) rfl
theorem se_X_cheap : Cond.selects m_X_cheap.1.cls m_X_cheap.1 m_X_cheap.1 ∈ sv_T := sv_in 1050 (by decide +kernel) rfl
def F_X_cheap_b35 (x1 : Int32) (x2 : Int32) (x3 : Int32) (x4 : Int32) (x5 : Int32) (x6 : Int32) (s : sv_S) : Option (Int32 × sv_S) :=
  if x1 = x2 then
    some ((-2 : Int32), s)
  else
  (F_X_areTons x4 s).bind fun r3 =>
  if r3 = 0 then
    some ((-2 : Int32), s)
  else
  (F_X_isDay x5 s).bind fun r4 =>
  if r4 = 0 then
    some ((-2 : Int32), s)
  else
  (F_Ca_price x3 x4 x5 s).bind fun r5 =>
  (F_Ca_reach x2 r5).bind fun r6 =>
  (F_Ca_leastFrom x1 r6).bind fun r7 =>
  if 0 ≤ r7 then
    if x6 = 0 then
      (F_Ca_leastFrom x1 r6).bind fun r10 =>
      some (r10, r6)
    else
    (F_Ca_legsFrom x1 r6).bind fun r8 =>
    if x6 = (1 : Int32) then
      some (r8, r6)
    else
    if r8 ≤ (x6 - (10 : Int32)) then
      some ((-1 : Int32), r6)
    else
    (F_Ca_leg x1 (x6 - (10 : Int32)) r6).bind fun r9 =>
    some (r9, r6)
  else
  some ((-3 : Int32), r6)
theorem V_X_cheap_b35 (E : sv_E) (d : Nat) (x1 : Int32) (x2 : Int32) (x3 : Int32) (x4 : Int32) (x5 : Int32) (x6 : Int32) (s : sv_S) : sv_V E m_X_cheap (d + 4) ss_i 35 [(0, sv_r E 64), (1, .int x1), (2, .int x2), (3, .int x3), (4, .int x4), (5, .int x5), (6, .int x6)] [] (ss_e s) (F_X_cheap_b35 x1 x2 x3 x4 x5 x6 s) := by
  unfold F_X_cheap_b35
  refine sv_iload_n (pc := 35) 1 (sv_d k_X_cheap 17 rfl) rfl rfl ?_
  refine sv_iload_n (pc := 36) 2 (sv_d k_X_cheap 18 rfl) rfl rfl ?_
  refine sv_icmp_eq (pc := 37) (tgt := 56) (sv_d k_X_cheap 19 rfl) (by decide) ?_ ?_
  · refine sv_bipush (pc := 56) (v := (-2 : Int32)) (sv_d k_X_cheap 26 rfl) (by decide) ?_
    exact sv_ret (pc := 58) (sv_d k_X_cheap 27 rfl) ⟨_, rfl, rfl⟩ rfl
  · refine sv_iload (pc := 40) 4 (sv_d k_X_cheap 20 rfl) rfl ?_
    refine sv_callS (pc := 42) (ψ := (ss_pi s)) (As := [.int x4]) (rest := []) (sv_d k_X_cheap 21 rfl) g_X_areTons w831 st_X_areTons rfl (Nat.le_of_ble_eq_true rfl) (V_X_areTons E (d + 3) x4 s) (Nat.le_of_ble_eq_true rfl) rfl (fun r3 => ?_)
    show sv_V E _ _ _ 45 _ [.int r3] (ss_e s) _
    refine sv_if_eq (pc := 45) (tgt := 56) (sv_d k_X_cheap 22 rfl) (by decide) ?_ ?_
    · refine sv_bipush (pc := 56) (v := (-2 : Int32)) (sv_d k_X_cheap 26 rfl) (by decide) ?_
      exact sv_ret (pc := 58) (sv_d k_X_cheap 27 rfl) ⟨_, rfl, rfl⟩ rfl
    · refine sv_iload (pc := 48) 5 (sv_d k_X_cheap 23 rfl) rfl ?_
      refine sv_callS (pc := 50) (ψ := (ss_pi s)) (As := [.int x5]) (rest := []) (sv_d k_X_cheap 24 rfl) g_X_isDay w621 st_X_isDay rfl (Nat.le_of_ble_eq_true rfl) (V_X_isDay E (d + 3) x5 s) (Nat.le_of_ble_eq_true rfl) rfl (fun r4 => ?_)
      show sv_V E _ _ _ 53 _ [.int r4] (ss_e s) _
      refine sv_if_ne (pc := 53) (tgt := 59) (sv_d k_X_cheap 25 rfl) (by decide) ?_ ?_
      · refine sv_aload_n (pc := 59) 0 (sv_d k_X_cheap 28 rfl) rfl rfl ?_
        refine sv_getf (pc := 60) 5 (sv_d k_X_cheap 29 rfl) cf11 (by decide) w521 kd64 (ss_lt (by decide)) (lr_64_5 E _) ?_
        refine sv_iload_n (pc := 63) 3 (sv_d k_X_cheap 30 rfl) rfl rfl ?_
        refine sv_iload (pc := 64) 4 (sv_d k_X_cheap 31 rfl) rfl ?_
        refine sv_iload (pc := 66) 5 (sv_d k_X_cheap 32 rfl) rfl ?_
        refine sv_callV (pc := 68) (ψ := ss_v) (As := [.int x3, .int x4, .int x5]) (rest := []) (c := 159) (sv_d k_X_cheap 33 rfl) g_Ca_price w1052 in_Ca_price se_Ca_price cf1 kd159 (ss_lt (by decide)) rfl (Nat.le_of_ble_eq_true rfl) (V_Ca_price E (d + 0) x3 x4 x5 s) (Nat.le_of_ble_eq_true rfl) rfl (fun r5 => ?_)
        show sv_V E _ _ _ 71 _ [] (ss_e r5) _
        refine sv_aload_n (pc := 71) 0 (sv_d k_X_cheap 34 rfl) rfl rfl ?_
        refine sv_getf (pc := 72) 5 (sv_d k_X_cheap 35 rfl) cf11 (by decide) w521 kd64 (ss_lt (by decide)) (lr_64_5 E _) ?_
        refine sv_iload_n (pc := 75) 2 (sv_d k_X_cheap 36 rfl) rfl rfl ?_
        refine sv_callV (pc := 76) (ψ := ss_v) (As := [.int x2]) (rest := []) (c := 159) (sv_d k_X_cheap 37 rfl) g_Ca_reach w1058 in_Ca_reach se_Ca_reach cf1 kd159 (ss_lt (by decide)) rfl (Nat.le_of_ble_eq_true rfl) (V_Ca_reach E (d + 1) x2 r5) (Nat.le_of_ble_eq_true rfl) rfl (fun r6 => ?_)
        show sv_V E _ _ _ 79 _ [] (ss_e r6) _
        refine sv_aload_n (pc := 79) 0 (sv_d k_X_cheap 38 rfl) rfl rfl ?_
        refine sv_getf (pc := 80) 5 (sv_d k_X_cheap 39 rfl) cf11 (by decide) w521 kd64 (ss_lt (by decide)) (lr_64_5 E _) ?_
        refine sv_iload_n (pc := 83) 1 (sv_d k_X_cheap 40 rfl) rfl rfl ?_
        refine sv_callV (pc := 84) (ψ := (ss_pi r6)) (As := [.int x1]) (rest := []) (c := 159) (sv_d k_X_cheap 41 rfl) g_Ca_leastFrom w1068 in_Ca_leastFrom se_Ca_leastFrom cf1 kd159 (ss_lt (by decide)) rfl (Nat.le_of_ble_eq_true rfl) (V_Ca_leastFrom E (d + 3) x1 r6) (Nat.le_of_ble_eq_true rfl) rfl (fun r7 => ?_)
        show sv_V E _ _ _ 87 _ [.int r7] (ss_e r6) _
        refine sv_if_ge (pc := 87) (tgt := 93) (sv_d k_X_cheap 42 rfl) (by decide) ?_ ?_
        · refine sv_iload (pc := 93) 6 (sv_d k_X_cheap 45 rfl) rfl ?_
          refine sv_if_ne (pc := 95) (tgt := 107) (sv_d k_X_cheap 46 rfl) (by decide) ?_ ?_
          · refine sv_aload_n (pc := 107) 0 (sv_d k_X_cheap 52 rfl) rfl rfl ?_
            refine sv_getf (pc := 108) 5 (sv_d k_X_cheap 53 rfl) cf11 (by decide) w521 kd64 (ss_lt (by decide)) (lr_64_5 E _) ?_
            refine sv_iload_n (pc := 111) 1 (sv_d k_X_cheap 54 rfl) rfl rfl ?_
            refine sv_callV (pc := 112) (ψ := (ss_pi r6)) (As := [.int x1]) (rest := []) (c := 159) (sv_d k_X_cheap 55 rfl) g_Ca_legsFrom w1072 in_Ca_legsFrom se_Ca_legsFrom cf1 kd159 (ss_lt (by decide)) rfl (Nat.le_of_ble_eq_true rfl) (V_Ca_legsFrom E (d + 3) x1 r6) (Nat.le_of_ble_eq_true rfl) rfl (fun r8 => ?_)
            show sv_V E _ _ _ 115 _ [.int r8] (ss_e r6) _
            refine sv_istore (pc := 115) (lv' := [(7, .int r8), (0, sv_r E 64), (1, .int x1), (2, .int x2), (3, .int x3), (4, .int x4), (5, .int x5), (6, .int x6)]) (sv_d k_X_cheap 56 rfl) (by decide) rfl ?_
            refine sv_iload (pc := 117) 7 (sv_d k_X_cheap 57 rfl) rfl ?_
            refine sv_iconst (pc := 119) (v := (1 : Int32)) (sv_d k_X_cheap 58 rfl) (by decide) ?_
            refine sv_icmp_ne (pc := 120) (tgt := 126) (sv_d k_X_cheap 59 rfl) (by decide) ?_ ?_
            · refine sv_iload (pc := 126) 7 (sv_d k_X_cheap 62 rfl) rfl ?_
              refine sv_bipush (pc := 128) (v := (10 : Int32)) (sv_d k_X_cheap 63 rfl) (by decide) ?_
              refine sv_isub (pc := 130) (sv_d k_X_cheap 64 rfl) ?_
              refine sv_iload (pc := 131) 0 (sv_d k_X_cheap 65 rfl) rfl ?_
              refine sv_icmp_ge (pc := 133) (tgt := 152) (sv_d k_X_cheap 66 rfl) (by decide) ?_ ?_
              · refine sv_iconst (pc := 152) (v := (-1 : Int32)) (sv_d k_X_cheap 75 rfl) (by decide) ?_
                exact sv_ret (pc := 153) (sv_d k_X_cheap 76 rfl) ⟨_, rfl, rfl⟩ rfl
              · refine sv_aload_n (pc := 136) 1 (sv_d k_X_cheap 67 rfl) rfl rfl ?_
                refine sv_getf (pc := 137) 5 (sv_d k_X_cheap 68 rfl) cf11 (by decide) w521 kd64 (ss_lt (by decide)) (lr_64_5 E _) ?_
                refine sv_iload_n (pc := 140) 2 (sv_d k_X_cheap 69 rfl) rfl rfl ?_
                refine sv_iload (pc := 141) 7 (sv_d k_X_cheap 70 rfl) rfl ?_
                refine sv_bipush (pc := 143) (v := (10 : Int32)) (sv_d k_X_cheap 71 rfl) (by decide) ?_
                refine sv_isub (pc := 145) (sv_d k_X_cheap 72 rfl) ?_
                refine sv_callV (pc := 146) (ψ := (ss_pi r6)) (As := [.int x1, .int (x6 - (10 : Int32))]) (rest := []) (c := 159) (sv_d k_X_cheap 73 rfl) g_Ca_leg w1076 in_Ca_leg se_Ca_leg cf1 kd159 (ss_lt (by decide)) rfl (Nat.le_of_ble_eq_true rfl) (V_Ca_leg E (d + 1) x1 (x6 - (10 : Int32)) r6) (Nat.le_of_ble_eq_true rfl) rfl (fun r9 => ?_)
                show sv_V E _ _ _ 149 _ [.int r9] (ss_e r6) _
                refine sv_goto (pc := 149) (tgt := 153) (sv_d k_X_cheap 74 rfl) (by decide) ?_
                exact sv_ret (pc := 153) (sv_d k_X_cheap 76 rfl) ⟨_, rfl, rfl⟩ rfl
            · refine sv_iload (pc := 123) 0 (sv_d k_X_cheap 60 rfl) rfl ?_
              exact sv_ret (pc := 125) (sv_d k_X_cheap 61 rfl) ⟨_, rfl, rfl⟩ rfl
          · refine sv_aload_n (pc := 98) 0 (sv_d k_X_cheap 47 rfl) rfl rfl ?_
            refine sv_getf (pc := 99) 5 (sv_d k_X_cheap 48 rfl) cf11 (by decide) w521 kd64 (ss_lt (by decide)) (lr_64_5 E _) ?_
            refine sv_iload_n (pc := 102) 1 (sv_d k_X_cheap 49 rfl) rfl rfl ?_
            refine sv_callV (pc := 103) (ψ := (ss_pi r6)) (As := [.int x1]) (rest := []) (c := 159) (sv_d k_X_cheap 50 rfl) g_Ca_leastFrom w1068 in_Ca_leastFrom se_Ca_leastFrom cf1 kd159 (ss_lt (by decide)) rfl (Nat.le_of_ble_eq_true rfl) (V_Ca_leastFrom E (d + 3) x1 r6) (Nat.le_of_ble_eq_true rfl) rfl (fun r10 => ?_)
            show sv_V E _ _ _ 106 _ [.int r10] (ss_e r6) _
            exact sv_ret (pc := 106) (sv_d k_X_cheap 51 rfl) ⟨_, rfl, rfl⟩ rfl
        · refine sv_bipush (pc := 90) (v := (-3 : Int32)) (sv_d k_X_cheap 43 rfl) (by decide) ?_
          exact sv_ret (pc := 92) (sv_d k_X_cheap 44 rfl) ⟨_, rfl, rfl⟩ rfl
      · refine sv_bipush (pc := 56) (v := (-2 : Int32)) (sv_d k_X_cheap 26 rfl) (by decide) ?_
        exact sv_ret (pc := 58) (sv_d k_X_cheap 27 rfl) ⟨_, rfl, rfl⟩ rfl
def F_X_cheap (x1 : Int32) (x2 : Int32) (x3 : Int32) (x4 : Int32) (x5 : Int32) (x6 : Int32) (s : sv_S) : Option (Int32 × sv_S) :=
  (F_X_areStations x1 x2 s).bind fun r1 =>
  if r1 = 0 then
    some ((-1 : Int32), s)
  else
  (F_X_isGood x3 s).bind fun r2 =>
  if r2 = 0 then
    some ((-1 : Int32), s)
  else
  if x6 < 0 then
    some ((-1 : Int32), s)
  else
  if x6 ≤ (1 : Int32) then
    F_X_cheap_b35 x1 x2 x3 x4 x5 x6 s
  else
  if (10 : Int32) ≤ x6 then
    F_X_cheap_b35 x1 x2 x3 x4 x5 x6 s
  else
  some ((-1 : Int32), s)
theorem V_X_cheap (E : sv_E) (d : Nat) (x1 : Int32) (x2 : Int32) (x3 : Int32) (x4 : Int32) (x5 : Int32) (x6 : Int32) (s : sv_S) : sv_V E m_X_cheap (d + 4) ss_i 0 (lv_args 0 [sv_r E 64, .int x1, .int x2, .int x3, .int x4, .int x5, .int x6]) [] (ss_e s) (F_X_cheap x1 x2 x3 x4 x5 x6 s) := by
  show sv_V E m_X_cheap (d + 4) ss_i 0 [(0, sv_r E 64), (1, .int x1), (2, .int x2), (3, .int x3), (4, .int x4), (5, .int x5), (6, .int x6)] [] (ss_e s) _
  unfold F_X_cheap
  refine sv_iload_n (pc := 0) 1 (sv_d k_X_cheap 0 rfl) rfl rfl ?_
  refine sv_iload_n (pc := 1) 2 (sv_d k_X_cheap 1 rfl) rfl rfl ?_
  refine sv_callS (pc := 2) (ψ := (ss_pi s)) (As := [.int x1, .int x2]) (rest := []) (sv_d k_X_cheap 2 rfl) g_X_areStations w561 st_X_areStations rfl (Nat.le_of_ble_eq_true rfl) (V_X_areStations E (d + 2) x1 x2 s) (Nat.le_of_ble_eq_true rfl) rfl (fun r1 => ?_)
  show sv_V E _ _ _ 5 _ [.int r1] (ss_e s) _
  refine sv_if_eq (pc := 5) (tgt := 33) (sv_d k_X_cheap 3 rfl) (by decide) ?_ ?_
  · refine sv_iconst (pc := 33) (v := (-1 : Int32)) (sv_d k_X_cheap 15 rfl) (by decide) ?_
    exact sv_ret (pc := 34) (sv_d k_X_cheap 16 rfl) ⟨_, rfl, rfl⟩ rfl
  · refine sv_iload_n (pc := 8) 3 (sv_d k_X_cheap 4 rfl) rfl rfl ?_
    refine sv_callS (pc := 9) (ψ := (ss_pi s)) (As := [.int x3]) (rest := []) (sv_d k_X_cheap 5 rfl) g_X_isGood w828 st_X_isGood rfl (Nat.le_of_ble_eq_true rfl) (V_X_isGood E (d + 3) x3 s) (Nat.le_of_ble_eq_true rfl) rfl (fun r2 => ?_)
    show sv_V E _ _ _ 12 _ [.int r2] (ss_e s) _
    refine sv_if_eq (pc := 12) (tgt := 33) (sv_d k_X_cheap 6 rfl) (by decide) ?_ ?_
    · refine sv_iconst (pc := 33) (v := (-1 : Int32)) (sv_d k_X_cheap 15 rfl) (by decide) ?_
      exact sv_ret (pc := 34) (sv_d k_X_cheap 16 rfl) ⟨_, rfl, rfl⟩ rfl
    · refine sv_iload (pc := 15) 6 (sv_d k_X_cheap 7 rfl) rfl ?_
      refine sv_if_lt (pc := 17) (tgt := 33) (sv_d k_X_cheap 8 rfl) (by decide) ?_ ?_
      · refine sv_iconst (pc := 33) (v := (-1 : Int32)) (sv_d k_X_cheap 15 rfl) (by decide) ?_
        exact sv_ret (pc := 34) (sv_d k_X_cheap 16 rfl) ⟨_, rfl, rfl⟩ rfl
      · refine sv_iload (pc := 20) 6 (sv_d k_X_cheap 9 rfl) rfl ?_
        refine sv_iconst (pc := 22) (v := (1 : Int32)) (sv_d k_X_cheap 10 rfl) (by decide) ?_
        refine sv_icmp_le (pc := 23) (tgt := 35) (sv_d k_X_cheap 11 rfl) (by decide) ?_ ?_
        · exact sv_loc [0, 1, 2, 3, 4, 5, 6] rfl (V_X_cheap_b35 E d x1 x2 x3 x4 x5 x6 s)
        · refine sv_iload (pc := 26) 6 (sv_d k_X_cheap 12 rfl) rfl ?_
          refine sv_bipush (pc := 28) (v := (10 : Int32)) (sv_d k_X_cheap 13 rfl) (by decide) ?_
          refine sv_icmp_ge (pc := 30) (tgt := 35) (sv_d k_X_cheap 14 rfl) (by decide) ?_ ?_
          · exact sv_loc [0, 1, 2, 3, 4, 5, 6] rfl (V_X_cheap_b35 E d x1 x2 x3 x4 x5 x6 s)
          · refine sv_iconst (pc := 33) (v := (-1 : Int32)) (sv_d k_X_cheap 15 rfl) (by decide) ?_
            exact sv_ret (pc := 34) (sv_d k_X_cheap 16 rfl) ⟨_, rfl, rfl⟩ rfl
/-! X_cry -/
abbrev m_X_cry : sv_M := (yX11_cry, cX11_cry, 11, (some .int))
def t_X_cry : List (Nat × Instr × Nat) := [(0, .iload_n 1, 1), (1, .iload_n 2, 1), (2, .invokestatic 93, 3), (5, .ifCond .eq 10, 3), (8, .iload_n 3, 1), (9, .invokestatic 168, 3), (12, .ifCond .ne 5, 3), (15, .iconst (-1), 1), (16, .ireturn, 1), (17, .iload_n 1, 1), (18, .iload_n 2, 1), (19, .if_icmp .eq 19, 3), (22, .iload 4, 2), (24, .invokestatic 171, 3), (27, .ifCond .eq 11, 3), (30, .iload 5, 2), (32, .invokestatic 122, 3), (35, .ifCond .ne 6, 3), (38, .bipush (-2), 2), (40, .ireturn, 1), (41, .aload_n 0, 1), (42, .getfield 55, 3), (45, .iload_n 3, 1), (46, .iload 4, 2), (48, .iload 5, 2), (50, .invokevirtual 289, 3), (53, .aload_n 0, 1), (54, .getfield 55, 3), (57, .iload_n 2, 1), (58, .invokevirtual 293, 3), (61, .aload_n 0, 1), (62, .getfield 55, 3), (65, .iload_n 1, 1), (66, .invokevirtual 296, 3), (69, .istore 6, 2), (71, .aload_n 0, 1), (72, .getfield 12, 3), (75, .iconst (-1), 1), (76, .iload_n 1, 1), (77, .iload_n 2, 1), (78, .invokevirtual 108, 3), (81, .istore 7, 2), (83, .iload 6, 2), (85, .ifCond .lt 8, 3), (88, .iload 7, 2), (90, .ifCond .ge 6, 3), (93, .bipush (-3), 2), (95, .ireturn, 1), (96, .iconst 0, 1), (97, .istore 8, 2), (99, .iconst 0, 1), (100, .istore 9, 2), (102, .iload 9, 2), (104, .bipush 16, 2), (106, .if_icmp .ge 51, 3), (109, .aload_n 0, 1), (110, .getfield 55, 3), (113, .iload 9, 2), (115, .invokevirtual 296, 3), (118, .istore 10, 2), (120, .aload_n 0, 1), (121, .getfield 12, 3), (124, .iconst (-1), 1), (125, .iload 9, 2), (127, .iload_n 2, 1), (128, .invokevirtual 108, 3), (131, .iload 7, 2), (133, .if_icmp .le 18, 3), (136, .iload 10, 2), (138, .ifCond .lt 13, 3), (141, .iload 10, 2), (143, .iload 6, 2), (145, .if_icmp .ge 6, 3), (148, .iinc 8 1, 3), (151, .iinc 9 1, 3), (154, .goto (-52), 3), (157, .iload 8, 2), (159, .ireturn, 1)]
theorem k_X_cry : sv_tk m_X_cry.2.1 t_X_cry := by decide +kernel
theorem g_X_cry : sv_G m_X_cry 5 := ⟨by decide +kernel, sv_in 1088 (by decide +kernel) rfl, sv_in 90 (by decide +kernel) rfl, ⟨by decide, by decide⟩, by decide +kernel, by decide⟩
theorem in_X_cry : Cond.instanceMethod m_X_cry.1 ∈ sv_T := sv_in 1086 (by decide +kernel) rfl
theorem se_X_cry : Cond.selects m_X_cry.1.cls m_X_cry.1 m_X_cry.1 ∈ sv_T := sv_in 1087 (by decide +kernel) rfl
def F_X_cry_b151 (kc102 : Int32 → Int32 → Int32 → Int32 → Int32 → sv_S → Option (Int32 × sv_S)) (x2 : Int32) (x6 : Int32) (x7 : Int32) (x8 : Int32) (x9 : Int32) (s : sv_S) : Option (Int32 × sv_S) :=
  ss_let (x9 + (1 : Int32)) fun v11 =>
  kc102 x2 x6 x7 x8 v11 s
theorem V_X_cry_b151 (E : sv_E) (d : Nat) (kc102 : Int32 → Int32 → Int32 → Int32 → Int32 → sv_S → Option (Int32 × sv_S)) (hc102 : ∀ (x2 : Int32) (x6 : Int32) (x7 : Int32) (x8 : Int32) (x9 : Int32) (s : sv_S), sv_V E m_X_cry (d + 4) ss_i 102 [(0, sv_r E 64), (2, .int x2), (6, .int x6), (7, .int x7), (8, .int x8), (9, .int x9)] [] (ss_e s) (kc102 x2 x6 x7 x8 x9 s)) (x2 : Int32) (x6 : Int32) (x7 : Int32) (x8 : Int32) (x9 : Int32) (s : sv_S) : sv_V E m_X_cry (d + 4) ss_i 151 [(0, sv_r E 64), (2, .int x2), (6, .int x6), (7, .int x7), (8, .int x8), (9, .int x9)] [] (ss_e s) (F_X_cry_b151 kc102 x2 x6 x7 x8 x9 s) := by
  unfold F_X_cry_b151
  refine ss_letr (fun v11 e_v11 => ?_)
  refine sv_iinc (pc := 151) (v := v11) (lv' := [(9, .int v11), (0, sv_r E 64), (2, .int x2), (6, .int x6), (7, .int x7), (8, .int x8)]) (sv_d k_X_cry 74 rfl) (n := 5) rfl (by rw [e_v11]; rfl) (by decide) rfl ?_
  refine sv_goto (pc := 154) (tgt := 102) (sv_d k_X_cry 75 rfl) (by decide) ?_
  exact sv_loc [1, 2, 3, 4, 5, 0] rfl (hc102 x2 x6 x7 x8 v11 s)
def F_X_cry_b102 : Nat → Int32 → Int32 → Int32 → Int32 → Int32 → sv_S → Option (Int32 × sv_S)
  | 0 => fun _ _ _ _ _ _ => none
  | n + 1 => fun x2 x6 x7 x8 x9 s =>
    if (16 : Int32) ≤ x9 then
      some (x8, s)
    else
    (F_Ca_leastFrom x9 s).bind fun r9 =>
    (F_Ro_between (-1 : Int32) x9 x2 s).bind fun r10 =>
    if r10 ≤ x7 then
      F_X_cry_b151 (F_X_cry_b102  n) x2 x6 x7 x8 x9 s
    else
    if r9 < 0 then
      F_X_cry_b151 (F_X_cry_b102  n) x2 x6 x7 x8 x9 s
    else
    if x6 ≤ r9 then
      F_X_cry_b151 (F_X_cry_b102  n) x2 x6 x7 x8 x9 s
    else
    ss_let (x8 + (1 : Int32)) fun v12 =>
    F_X_cry_b151 (F_X_cry_b102  n) x2 x6 x7 v12 x9 s
theorem V_X_cry_b102 (E : sv_E) (d : Nat) : ∀ (n : Nat) (x2 : Int32) (x6 : Int32) (x7 : Int32) (x8 : Int32) (x9 : Int32) (s : sv_S), sv_V E m_X_cry (d + 4) ss_i 102 [(0, sv_r E 64), (2, .int x2), (6, .int x6), (7, .int x7), (8, .int x8), (9, .int x9)] [] (ss_e s) (F_X_cry_b102 n x2 x6 x7 x8 x9 s) := by
  intro n
  induction n with
  | zero => intro x2 x6 x7 x8 x9 s; exact sv_none
  | succ n ih =>
    intro x2 x6 x7 x8 x9 s
    unfold F_X_cry_b102
    refine sv_iload (pc := 102) 5 (sv_d k_X_cry 52 rfl) rfl ?_
    refine sv_bipush (pc := 104) (v := (16 : Int32)) (sv_d k_X_cry 53 rfl) (by decide) ?_
    refine sv_icmp_ge (pc := 106) (tgt := 157) (sv_d k_X_cry 54 rfl) (by decide) ?_ ?_
    · refine sv_iload (pc := 157) 4 (sv_d k_X_cry 76 rfl) rfl ?_
      exact sv_ret (pc := 159) (sv_d k_X_cry 77 rfl) ⟨_, rfl, rfl⟩ rfl
    · refine sv_aload_n (pc := 109) 0 (sv_d k_X_cry 55 rfl) rfl rfl ?_
      refine sv_getf (pc := 110) 5 (sv_d k_X_cry 56 rfl) cf11 (by decide) w521 kd64 (ss_lt (by decide)) (lr_64_5 E _) ?_
      refine sv_iload (pc := 113) 5 (sv_d k_X_cry 57 rfl) rfl ?_
      refine sv_callV (pc := 115) (ψ := (ss_pi s)) (As := [.int x9]) (rest := []) (c := 159) (sv_d k_X_cry 58 rfl) g_Ca_leastFrom w1068 in_Ca_leastFrom se_Ca_leastFrom cf1 kd159 (ss_lt (by decide)) rfl (Nat.le_of_ble_eq_true rfl) (V_Ca_leastFrom E (d + 3) x9 s) (Nat.le_of_ble_eq_true rfl) rfl (fun r9 => ?_)
      show sv_V E _ _ _ 118 _ [.int r9] (ss_e s) _
      refine sv_istore (pc := 118) (lv' := [(10, .int r9), (0, sv_r E 64), (2, .int x2), (6, .int x6), (7, .int x7), (8, .int x8), (9, .int x9)]) (sv_d k_X_cry 59 rfl) (by decide) rfl ?_
      refine sv_aload_n (pc := 120) 1 (sv_d k_X_cry 60 rfl) rfl rfl ?_
      refine sv_getf (pc := 121) 0 (sv_d k_X_cry 61 rfl) cf11 (by decide) w516 kd64 (ss_lt (by decide)) (lr_64_0 E _) ?_
      refine sv_iconst (pc := 124) (v := (-1 : Int32)) (sv_d k_X_cry 62 rfl) (by decide) ?_
      refine sv_iload (pc := 125) 6 (sv_d k_X_cry 63 rfl) rfl ?_
      refine sv_iload_n (pc := 127) 2 (sv_d k_X_cry 64 rfl) rfl rfl ?_
      refine sv_callV (pc := 128) (ψ := (ss_pi s)) (As := [.int (-1 : Int32), .int x9, .int x2]) (rest := []) (c := 65) (sv_d k_X_cry 65 rfl) g_Ro_between w588 in_Ro_between se_Ro_between cf7 kd65 (ss_lt (by decide)) rfl (Nat.le_of_ble_eq_true rfl) (V_Ro_between E (d + 3) (-1 : Int32) x9 x2 s) (Nat.le_of_ble_eq_true rfl) rfl (fun r10 => ?_)
      show sv_V E _ _ _ 131 _ [.int r10] (ss_e s) _
      refine sv_iload (pc := 131) 4 (sv_d k_X_cry 66 rfl) rfl ?_
      refine sv_icmp_le (pc := 133) (tgt := 151) (sv_d k_X_cry 67 rfl) (by decide) ?_ ?_
      · exact sv_loc [1, 2, 3, 4, 5, 6] rfl (V_X_cry_b151 E d (F_X_cry_b102  n) ih x2 x6 x7 x8 x9 s)
      · refine sv_iload (pc := 136) 0 (sv_d k_X_cry 68 rfl) rfl ?_
        refine sv_if_lt (pc := 138) (tgt := 151) (sv_d k_X_cry 69 rfl) (by decide) ?_ ?_
        · exact sv_loc [1, 2, 3, 4, 5, 6] rfl (V_X_cry_b151 E d (F_X_cry_b102  n) ih x2 x6 x7 x8 x9 s)
        · refine sv_iload (pc := 141) 0 (sv_d k_X_cry 70 rfl) rfl ?_
          refine sv_iload (pc := 143) 3 (sv_d k_X_cry 71 rfl) rfl ?_
          refine sv_icmp_ge (pc := 145) (tgt := 151) (sv_d k_X_cry 72 rfl) (by decide) ?_ ?_
          · exact sv_loc [1, 2, 3, 4, 5, 6] rfl (V_X_cry_b151 E d (F_X_cry_b102  n) ih x2 x6 x7 x8 x9 s)
          · refine ss_letr (fun v12 e_v12 => ?_)
            refine sv_iinc (pc := 148) (v := v12) (lv' := [(8, .int v12), (10, .int r9), (0, sv_r E 64), (2, .int x2), (6, .int x6), (7, .int x7), (9, .int x9)]) (sv_d k_X_cry 73 rfl) (n := 5) rfl (by rw [e_v12]; rfl) (by decide) rfl ?_
            exact sv_loc [2, 3, 4, 5, 0, 6] rfl (V_X_cry_b151 E d (F_X_cry_b102  n) ih x2 x6 x7 v12 x9 s)
def F_X_cry (x1 : Int32) (x2 : Int32) (x3 : Int32) (x4 : Int32) (x5 : Int32) (s : sv_S) : Option (Int32 × sv_S) :=
  (F_X_areStations x1 x2 s).bind fun r1 =>
  if r1 = 0 then
    some ((-1 : Int32), s)
  else
  (F_X_isGood x3 s).bind fun r2 =>
  if r2 = 0 then
    some ((-1 : Int32), s)
  else
  if x1 = x2 then
    some ((-2 : Int32), s)
  else
  (F_X_areTons x4 s).bind fun r3 =>
  if r3 = 0 then
    some ((-2 : Int32), s)
  else
  (F_X_isDay x5 s).bind fun r4 =>
  if r4 = 0 then
    some ((-2 : Int32), s)
  else
  (F_Ca_price x3 x4 x5 s).bind fun r5 =>
  (F_Ca_reach x2 r5).bind fun r6 =>
  (F_Ca_leastFrom x1 r6).bind fun r7 =>
  (F_Ro_between (-1 : Int32) x1 x2 r6).bind fun r8 =>
  if r7 < 0 then
    some ((-3 : Int32), r6)
  else
  if 0 ≤ r8 then
    F_X_cry_b102 ss_F x2 r7 r8 (0 : Int32) (0 : Int32) r6
  else
  some ((-3 : Int32), r6)
theorem V_X_cry (E : sv_E) (d : Nat) (x1 : Int32) (x2 : Int32) (x3 : Int32) (x4 : Int32) (x5 : Int32) (s : sv_S) : sv_V E m_X_cry (d + 4) ss_i 0 (lv_args 0 [sv_r E 64, .int x1, .int x2, .int x3, .int x4, .int x5]) [] (ss_e s) (F_X_cry x1 x2 x3 x4 x5 s) := by
  show sv_V E m_X_cry (d + 4) ss_i 0 [(0, sv_r E 64), (1, .int x1), (2, .int x2), (3, .int x3), (4, .int x4), (5, .int x5)] [] (ss_e s) _
  unfold F_X_cry
  refine sv_iload_n (pc := 0) 1 (sv_d k_X_cry 0 rfl) rfl rfl ?_
  refine sv_iload_n (pc := 1) 2 (sv_d k_X_cry 1 rfl) rfl rfl ?_
  refine sv_callS (pc := 2) (ψ := (ss_pi s)) (As := [.int x1, .int x2]) (rest := []) (sv_d k_X_cry 2 rfl) g_X_areStations w561 st_X_areStations rfl (Nat.le_of_ble_eq_true rfl) (V_X_areStations E (d + 2) x1 x2 s) (Nat.le_of_ble_eq_true rfl) rfl (fun r1 => ?_)
  show sv_V E _ _ _ 5 _ [.int r1] (ss_e s) _
  refine sv_if_eq (pc := 5) (tgt := 15) (sv_d k_X_cry 3 rfl) (by decide) ?_ ?_
  · refine sv_iconst (pc := 15) (v := (-1 : Int32)) (sv_d k_X_cry 7 rfl) (by decide) ?_
    exact sv_ret (pc := 16) (sv_d k_X_cry 8 rfl) ⟨_, rfl, rfl⟩ rfl
  · refine sv_iload_n (pc := 8) 3 (sv_d k_X_cry 4 rfl) rfl rfl ?_
    refine sv_callS (pc := 9) (ψ := (ss_pi s)) (As := [.int x3]) (rest := []) (sv_d k_X_cry 5 rfl) g_X_isGood w828 st_X_isGood rfl (Nat.le_of_ble_eq_true rfl) (V_X_isGood E (d + 3) x3 s) (Nat.le_of_ble_eq_true rfl) rfl (fun r2 => ?_)
    show sv_V E _ _ _ 12 _ [.int r2] (ss_e s) _
    refine sv_if_ne (pc := 12) (tgt := 17) (sv_d k_X_cry 6 rfl) (by decide) ?_ ?_
    · refine sv_iload_n (pc := 17) 1 (sv_d k_X_cry 9 rfl) rfl rfl ?_
      refine sv_iload_n (pc := 18) 2 (sv_d k_X_cry 10 rfl) rfl rfl ?_
      refine sv_icmp_eq (pc := 19) (tgt := 38) (sv_d k_X_cry 11 rfl) (by decide) ?_ ?_
      · refine sv_bipush (pc := 38) (v := (-2 : Int32)) (sv_d k_X_cry 18 rfl) (by decide) ?_
        exact sv_ret (pc := 40) (sv_d k_X_cry 19 rfl) ⟨_, rfl, rfl⟩ rfl
      · refine sv_iload (pc := 22) 4 (sv_d k_X_cry 12 rfl) rfl ?_
        refine sv_callS (pc := 24) (ψ := (ss_pi s)) (As := [.int x4]) (rest := []) (sv_d k_X_cry 13 rfl) g_X_areTons w831 st_X_areTons rfl (Nat.le_of_ble_eq_true rfl) (V_X_areTons E (d + 3) x4 s) (Nat.le_of_ble_eq_true rfl) rfl (fun r3 => ?_)
        show sv_V E _ _ _ 27 _ [.int r3] (ss_e s) _
        refine sv_if_eq (pc := 27) (tgt := 38) (sv_d k_X_cry 14 rfl) (by decide) ?_ ?_
        · refine sv_bipush (pc := 38) (v := (-2 : Int32)) (sv_d k_X_cry 18 rfl) (by decide) ?_
          exact sv_ret (pc := 40) (sv_d k_X_cry 19 rfl) ⟨_, rfl, rfl⟩ rfl
        · refine sv_iload (pc := 30) 5 (sv_d k_X_cry 15 rfl) rfl ?_
          refine sv_callS (pc := 32) (ψ := (ss_pi s)) (As := [.int x5]) (rest := []) (sv_d k_X_cry 16 rfl) g_X_isDay w621 st_X_isDay rfl (Nat.le_of_ble_eq_true rfl) (V_X_isDay E (d + 3) x5 s) (Nat.le_of_ble_eq_true rfl) rfl (fun r4 => ?_)
          show sv_V E _ _ _ 35 _ [.int r4] (ss_e s) _
          refine sv_if_ne (pc := 35) (tgt := 41) (sv_d k_X_cry 17 rfl) (by decide) ?_ ?_
          · refine sv_aload_n (pc := 41) 0 (sv_d k_X_cry 20 rfl) rfl rfl ?_
            refine sv_getf (pc := 42) 5 (sv_d k_X_cry 21 rfl) cf11 (by decide) w521 kd64 (ss_lt (by decide)) (lr_64_5 E _) ?_
            refine sv_iload_n (pc := 45) 3 (sv_d k_X_cry 22 rfl) rfl rfl ?_
            refine sv_iload (pc := 46) 4 (sv_d k_X_cry 23 rfl) rfl ?_
            refine sv_iload (pc := 48) 5 (sv_d k_X_cry 24 rfl) rfl ?_
            refine sv_callV (pc := 50) (ψ := ss_v) (As := [.int x3, .int x4, .int x5]) (rest := []) (c := 159) (sv_d k_X_cry 25 rfl) g_Ca_price w1052 in_Ca_price se_Ca_price cf1 kd159 (ss_lt (by decide)) rfl (Nat.le_of_ble_eq_true rfl) (V_Ca_price E (d + 0) x3 x4 x5 s) (Nat.le_of_ble_eq_true rfl) rfl (fun r5 => ?_)
            show sv_V E _ _ _ 53 _ [] (ss_e r5) _
            refine sv_aload_n (pc := 53) 0 (sv_d k_X_cry 26 rfl) rfl rfl ?_
            refine sv_getf (pc := 54) 5 (sv_d k_X_cry 27 rfl) cf11 (by decide) w521 kd64 (ss_lt (by decide)) (lr_64_5 E _) ?_
            refine sv_iload_n (pc := 57) 2 (sv_d k_X_cry 28 rfl) rfl rfl ?_
            refine sv_callV (pc := 58) (ψ := ss_v) (As := [.int x2]) (rest := []) (c := 159) (sv_d k_X_cry 29 rfl) g_Ca_reach w1058 in_Ca_reach se_Ca_reach cf1 kd159 (ss_lt (by decide)) rfl (Nat.le_of_ble_eq_true rfl) (V_Ca_reach E (d + 1) x2 r5) (Nat.le_of_ble_eq_true rfl) rfl (fun r6 => ?_)
            show sv_V E _ _ _ 61 _ [] (ss_e r6) _
            refine sv_aload_n (pc := 61) 0 (sv_d k_X_cry 30 rfl) rfl rfl ?_
            refine sv_getf (pc := 62) 5 (sv_d k_X_cry 31 rfl) cf11 (by decide) w521 kd64 (ss_lt (by decide)) (lr_64_5 E _) ?_
            refine sv_iload_n (pc := 65) 1 (sv_d k_X_cry 32 rfl) rfl rfl ?_
            refine sv_callV (pc := 66) (ψ := (ss_pi r6)) (As := [.int x1]) (rest := []) (c := 159) (sv_d k_X_cry 33 rfl) g_Ca_leastFrom w1068 in_Ca_leastFrom se_Ca_leastFrom cf1 kd159 (ss_lt (by decide)) rfl (Nat.le_of_ble_eq_true rfl) (V_Ca_leastFrom E (d + 3) x1 r6) (Nat.le_of_ble_eq_true rfl) rfl (fun r7 => ?_)
            show sv_V E _ _ _ 69 _ [.int r7] (ss_e r6) _
            refine sv_istore (pc := 69) (lv' := [(6, .int r7), (0, sv_r E 64), (1, .int x1), (2, .int x2), (3, .int x3), (4, .int x4), (5, .int x5)]) (sv_d k_X_cry 34 rfl) (by decide) rfl ?_
            refine sv_aload_n (pc := 71) 1 (sv_d k_X_cry 35 rfl) rfl rfl ?_
            refine sv_getf (pc := 72) 0 (sv_d k_X_cry 36 rfl) cf11 (by decide) w516 kd64 (ss_lt (by decide)) (lr_64_0 E _) ?_
            refine sv_iconst (pc := 75) (v := (-1 : Int32)) (sv_d k_X_cry 37 rfl) (by decide) ?_
            refine sv_iload_n (pc := 76) 2 (sv_d k_X_cry 38 rfl) rfl rfl ?_
            refine sv_iload_n (pc := 77) 3 (sv_d k_X_cry 39 rfl) rfl rfl ?_
            refine sv_callV (pc := 78) (ψ := (ss_pi r6)) (As := [.int (-1 : Int32), .int x1, .int x2]) (rest := []) (c := 65) (sv_d k_X_cry 40 rfl) g_Ro_between w588 in_Ro_between se_Ro_between cf7 kd65 (ss_lt (by decide)) rfl (Nat.le_of_ble_eq_true rfl) (V_Ro_between E (d + 3) (-1 : Int32) x1 x2 r6) (Nat.le_of_ble_eq_true rfl) rfl (fun r8 => ?_)
            show sv_V E _ _ _ 81 _ [.int r8] (ss_e r6) _
            refine sv_istore (pc := 81) (lv' := [(7, .int r8), (6, .int r7), (0, sv_r E 64), (1, .int x1), (2, .int x2), (3, .int x3), (4, .int x4), (5, .int x5)]) (sv_d k_X_cry 41 rfl) (by decide) rfl ?_
            refine sv_iload (pc := 83) 1 (sv_d k_X_cry 42 rfl) rfl ?_
            refine sv_if_lt (pc := 85) (tgt := 93) (sv_d k_X_cry 43 rfl) (by decide) ?_ ?_
            · refine sv_bipush (pc := 93) (v := (-3 : Int32)) (sv_d k_X_cry 46 rfl) (by decide) ?_
              exact sv_ret (pc := 95) (sv_d k_X_cry 47 rfl) ⟨_, rfl, rfl⟩ rfl
            · refine sv_iload (pc := 88) 0 (sv_d k_X_cry 44 rfl) rfl ?_
              refine sv_if_ge (pc := 90) (tgt := 96) (sv_d k_X_cry 45 rfl) (by decide) ?_ ?_
              · refine sv_iconst (pc := 96) (v := (0 : Int32)) (sv_d k_X_cry 48 rfl) (by decide) ?_
                refine sv_istore (pc := 97) (lv' := [(8, .int (0 : Int32)), (7, .int r8), (6, .int r7), (0, sv_r E 64), (1, .int x1), (2, .int x2), (3, .int x3), (4, .int x4), (5, .int x5)]) (sv_d k_X_cry 49 rfl) (by decide) rfl ?_
                refine sv_iconst (pc := 99) (v := (0 : Int32)) (sv_d k_X_cry 50 rfl) (by decide) ?_
                refine sv_istore (pc := 100) (lv' := [(9, .int (0 : Int32)), (8, .int (0 : Int32)), (7, .int r8), (6, .int r7), (0, sv_r E 64), (1, .int x1), (2, .int x2), (3, .int x3), (4, .int x4), (5, .int x5)]) (sv_d k_X_cry 51 rfl) (by decide) rfl ?_
                exact sv_loc [4, 6, 3, 2, 1, 0] rfl (V_X_cry_b102 E d ss_F x2 r7 r8 (0 : Int32) (0 : Int32) r6)
              · refine sv_bipush (pc := 93) (v := (-3 : Int32)) (sv_d k_X_cry 46 rfl) (by decide) ?_
                exact sv_ret (pc := 95) (sv_d k_X_cry 47 rfl) ⟨_, rfl, rfl⟩ rfl
          · refine sv_bipush (pc := 38) (v := (-2 : Int32)) (sv_d k_X_cry 18 rfl) (by decide) ?_
            exact sv_ret (pc := 40) (sv_d k_X_cry 19 rfl) ⟨_, rfl, rfl⟩ rfl
    · refine sv_iconst (pc := 15) (v := (-1 : Int32)) (sv_d k_X_cry 7 rfl) (by decide) ?_
      exact sv_ret (pc := 16) (sv_d k_X_cry 8 rfl) ⟨_, rfl, rfl⟩ rfl
/-! X_want -/
abbrev m_X_want : sv_M := (yX11_want, cX11_want, 6, (some .int))
def t_X_want : List (Nat × Instr × Nat) := [(0, .iload_n 1, 1), (1, .iload_n 2, 1), (2, .invokestatic 93, 3), (5, .ifCond .eq 10, 3), (8, .iload_n 3, 1), (9, .invokestatic 168, 3), (12, .ifCond .ne 5, 3), (15, .iconst (-1), 1), (16, .ireturn, 1), (17, .iload_n 1, 1), (18, .iload_n 2, 1), (19, .if_icmp .eq 24, 3), (22, .iload 4, 2), (24, .invokestatic 171, 3), (27, .ifCond .eq 16, 3), (30, .iload 5, 2), (32, .ifCond .lt 11, 3), (35, .iload 5, 2), (37, .sipush 999, 3), (40, .if_icmp .le 6, 3), (43, .bipush (-2), 2), (45, .ireturn, 1), (46, .aload_n 0, 1), (47, .getfield 64, 3), (50, .invokevirtual 305, 3), (53, .ifCond .eq 8, 3), (56, .bipush (-4), 2), (58, .goto 17, 3), (61, .aload_n 0, 1), (62, .getfield 64, 3), (65, .iload_n 1, 1), (66, .iload_n 2, 1), (67, .iload_n 3, 1), (68, .iload 4, 2), (70, .iload 5, 2), (72, .invokevirtual 306, 3), (75, .ireturn, 1)]
theorem k_X_want : sv_tk m_X_want.2.1 t_X_want := by decide +kernel
theorem g_X_want : sv_G m_X_want 5 := ⟨by decide +kernel, sv_in 1092 (by decide +kernel) rfl, sv_in 90 (by decide +kernel) rfl, ⟨by decide, by decide⟩, by decide +kernel, by decide⟩
theorem in_X_want : Cond.instanceMethod m_X_want.1 ∈ sv_T := sv_in 1090 (by decide +kernel) rfl
theorem se_X_want : Cond.selects m_X_want.1.cls m_X_want.1 m_X_want.1 ∈ sv_T := sv_in 1091 (by decide +kernel) rfl
def F_X_want (x1 : Int32) (x2 : Int32) (x3 : Int32) (x4 : Int32) (x5 : Int32) (s : sv_S) : Option (Int32 × sv_S) :=
  (F_X_areStations x1 x2 s).bind fun r1 =>
  if r1 = 0 then
    some ((-1 : Int32), s)
  else
  (F_X_isGood x3 s).bind fun r2 =>
  if r2 = 0 then
    some ((-1 : Int32), s)
  else
  if x1 = x2 then
    some ((-2 : Int32), s)
  else
  (F_X_areTons x4 s).bind fun r3 =>
  if r3 = 0 then
    some ((-2 : Int32), s)
  else
  if x5 < 0 then
    some ((-2 : Int32), s)
  else
  if x5 ≤ (999 : Int32) then
    (F_Wa_areFull s).bind fun r4 =>
    if r4 = 0 then
      (F_Wa_add x1 x2 x3 x4 x5 s).bind fun r5 =>
      some (r5.1, r5.2)
    else
    some ((-4 : Int32), s)
  else
  some ((-2 : Int32), s)
theorem V_X_want (E : sv_E) (d : Nat) (x1 : Int32) (x2 : Int32) (x3 : Int32) (x4 : Int32) (x5 : Int32) (s : sv_S) : sv_V E m_X_want (d + 2) ss_i 0 (lv_args 0 [sv_r E 64, .int x1, .int x2, .int x3, .int x4, .int x5]) [] (ss_e s) (F_X_want x1 x2 x3 x4 x5 s) := by
  show sv_V E m_X_want (d + 2) ss_i 0 [(0, sv_r E 64), (1, .int x1), (2, .int x2), (3, .int x3), (4, .int x4), (5, .int x5)] [] (ss_e s) _
  unfold F_X_want
  refine sv_iload_n (pc := 0) 1 (sv_d k_X_want 0 rfl) rfl rfl ?_
  refine sv_iload_n (pc := 1) 2 (sv_d k_X_want 1 rfl) rfl rfl ?_
  refine sv_callS (pc := 2) (ψ := (ss_pi s)) (As := [.int x1, .int x2]) (rest := []) (sv_d k_X_want 2 rfl) g_X_areStations w561 st_X_areStations rfl (Nat.le_of_ble_eq_true rfl) (V_X_areStations E (d + 0) x1 x2 s) (Nat.le_of_ble_eq_true rfl) rfl (fun r1 => ?_)
  show sv_V E _ _ _ 5 _ [.int r1] (ss_e s) _
  refine sv_if_eq (pc := 5) (tgt := 15) (sv_d k_X_want 3 rfl) (by decide) ?_ ?_
  · refine sv_iconst (pc := 15) (v := (-1 : Int32)) (sv_d k_X_want 7 rfl) (by decide) ?_
    exact sv_ret (pc := 16) (sv_d k_X_want 8 rfl) ⟨_, rfl, rfl⟩ rfl
  · refine sv_iload_n (pc := 8) 3 (sv_d k_X_want 4 rfl) rfl rfl ?_
    refine sv_callS (pc := 9) (ψ := (ss_pi s)) (As := [.int x3]) (rest := []) (sv_d k_X_want 5 rfl) g_X_isGood w828 st_X_isGood rfl (Nat.le_of_ble_eq_true rfl) (V_X_isGood E (d + 1) x3 s) (Nat.le_of_ble_eq_true rfl) rfl (fun r2 => ?_)
    show sv_V E _ _ _ 12 _ [.int r2] (ss_e s) _
    refine sv_if_ne (pc := 12) (tgt := 17) (sv_d k_X_want 6 rfl) (by decide) ?_ ?_
    · refine sv_iload_n (pc := 17) 1 (sv_d k_X_want 9 rfl) rfl rfl ?_
      refine sv_iload_n (pc := 18) 2 (sv_d k_X_want 10 rfl) rfl rfl ?_
      refine sv_icmp_eq (pc := 19) (tgt := 43) (sv_d k_X_want 11 rfl) (by decide) ?_ ?_
      · refine sv_bipush (pc := 43) (v := (-2 : Int32)) (sv_d k_X_want 20 rfl) (by decide) ?_
        exact sv_ret (pc := 45) (sv_d k_X_want 21 rfl) ⟨_, rfl, rfl⟩ rfl
      · refine sv_iload (pc := 22) 4 (sv_d k_X_want 12 rfl) rfl ?_
        refine sv_callS (pc := 24) (ψ := (ss_pi s)) (As := [.int x4]) (rest := []) (sv_d k_X_want 13 rfl) g_X_areTons w831 st_X_areTons rfl (Nat.le_of_ble_eq_true rfl) (V_X_areTons E (d + 1) x4 s) (Nat.le_of_ble_eq_true rfl) rfl (fun r3 => ?_)
        show sv_V E _ _ _ 27 _ [.int r3] (ss_e s) _
        refine sv_if_eq (pc := 27) (tgt := 43) (sv_d k_X_want 14 rfl) (by decide) ?_ ?_
        · refine sv_bipush (pc := 43) (v := (-2 : Int32)) (sv_d k_X_want 20 rfl) (by decide) ?_
          exact sv_ret (pc := 45) (sv_d k_X_want 21 rfl) ⟨_, rfl, rfl⟩ rfl
        · refine sv_iload (pc := 30) 5 (sv_d k_X_want 15 rfl) rfl ?_
          refine sv_if_lt (pc := 32) (tgt := 43) (sv_d k_X_want 16 rfl) (by decide) ?_ ?_
          · refine sv_bipush (pc := 43) (v := (-2 : Int32)) (sv_d k_X_want 20 rfl) (by decide) ?_
            exact sv_ret (pc := 45) (sv_d k_X_want 21 rfl) ⟨_, rfl, rfl⟩ rfl
          · refine sv_iload (pc := 35) 5 (sv_d k_X_want 17 rfl) rfl ?_
            refine sv_sipush (pc := 37) (v := (999 : Int32)) (sv_d k_X_want 18 rfl) (by decide) ?_
            refine sv_icmp_le (pc := 40) (tgt := 46) (sv_d k_X_want 19 rfl) (by decide) ?_ ?_
            · refine sv_aload_n (pc := 46) 0 (sv_d k_X_want 22 rfl) rfl rfl ?_
              refine sv_getf (pc := 47) 6 (sv_d k_X_want 23 rfl) cf11 (by decide) w522 kd64 (ss_lt (by decide)) (lr_64_6 E _) ?_
              refine sv_callV (pc := 50) (ψ := (ss_pi s)) (As := []) (rest := []) (c := 163) (sv_d k_X_want 24 rfl) g_Wa_areFull w1093 in_Wa_areFull se_Wa_areFull cf10 kd163 (ss_lt (by decide)) rfl (Nat.le_of_ble_eq_true rfl) (V_Wa_areFull E (d + 1) s) (Nat.le_of_ble_eq_true rfl) rfl (fun r4 => ?_)
              show sv_V E _ _ _ 53 _ [.int r4] (ss_e s) _
              refine sv_if_eq (pc := 53) (tgt := 61) (sv_d k_X_want 25 rfl) (by decide) ?_ ?_
              · refine sv_aload_n (pc := 61) 0 (sv_d k_X_want 28 rfl) rfl rfl ?_
                refine sv_getf (pc := 62) 6 (sv_d k_X_want 29 rfl) cf11 (by decide) w522 kd64 (ss_lt (by decide)) (lr_64_6 E _) ?_
                refine sv_iload_n (pc := 65) 1 (sv_d k_X_want 30 rfl) rfl rfl ?_
                refine sv_iload_n (pc := 66) 2 (sv_d k_X_want 31 rfl) rfl rfl ?_
                refine sv_iload_n (pc := 67) 3 (sv_d k_X_want 32 rfl) rfl rfl ?_
                refine sv_iload (pc := 68) 4 (sv_d k_X_want 33 rfl) rfl ?_
                refine sv_iload (pc := 70) 5 (sv_d k_X_want 34 rfl) rfl ?_
                refine sv_callV (pc := 72) (ψ := ss_i) (As := [.int x1, .int x2, .int x3, .int x4, .int x5]) (rest := []) (c := 163) (sv_d k_X_want 35 rfl) g_Wa_add w1097 in_Wa_add se_Wa_add cf10 kd163 (ss_lt (by decide)) rfl (Nat.le_of_ble_eq_true rfl) (V_Wa_add E (d + 1) x1 x2 x3 x4 x5 s) (Nat.le_of_ble_eq_true rfl) rfl (fun r5 => ?_)
                show sv_V E _ _ _ 75 _ [.int r5.1] (ss_e r5.2) _
                exact sv_ret (pc := 75) (sv_d k_X_want 36 rfl) ⟨_, rfl, rfl⟩ rfl
              · refine sv_bipush (pc := 56) (v := (-4 : Int32)) (sv_d k_X_want 26 rfl) (by decide) ?_
                refine sv_goto (pc := 58) (tgt := 75) (sv_d k_X_want 27 rfl) (by decide) ?_
                exact sv_ret (pc := 75) (sv_d k_X_want 36 rfl) ⟨_, rfl, rfl⟩ rfl
            · refine sv_bipush (pc := 43) (v := (-2 : Int32)) (sv_d k_X_want 20 rfl) (by decide) ?_
              exact sv_ret (pc := 45) (sv_d k_X_want 21 rfl) ⟨_, rfl, rfl⟩ rfl
    · refine sv_iconst (pc := 15) (v := (-1 : Int32)) (sv_d k_X_want 7 rfl) (by decide) ?_
      exact sv_ret (pc := 16) (sv_d k_X_want 8 rfl) ⟨_, rfl, rfl⟩ rfl
/-! X_ships -/
abbrev m_X_ships : sv_M := (yX11_ships, cX11_ships, 3, (some .int))
def t_X_ships : List (Nat × Instr × Nat) := [(0, .aload_n 0, 1), (1, .getfield 64, 3), (4, .iload_n 1, 1), (5, .invokevirtual 307, 3), (8, .ifCond .ne 5, 3), (11, .iconst (-1), 1), (12, .ireturn, 1), (13, .iload_n 2, 1), (14, .invokestatic 122, 3), (17, .ifCond .ne 6, 3), (20, .bipush (-2), 2), (22, .ireturn, 1), (23, .aload_n 0, 1), (24, .getfield 64, 3), (27, .iload_n 1, 1), (28, .iload_n 2, 1), (29, .invokevirtual 308, 3), (32, .ifCond .eq 7, 3), (35, .iconst 1, 1), (36, .goto 4, 3), (39, .iconst 0, 1), (40, .ireturn, 1)]
theorem k_X_ships : sv_tk m_X_ships.2.1 t_X_ships := by decide +kernel
theorem g_X_ships : sv_G m_X_ships 2 := ⟨by decide +kernel, sv_in 1104 (by decide +kernel) rfl, sv_in 90 (by decide +kernel) rfl, ⟨by decide, by decide⟩, by decide +kernel, by decide⟩
theorem in_X_ships : Cond.instanceMethod m_X_ships.1 ∈ sv_T := sv_in 1102 (by decide +kernel) rfl
theorem se_X_ships : Cond.selects m_X_ships.1.cls m_X_ships.1 m_X_ships.1 ∈ sv_T := sv_in 1103 (by decide +kernel) rfl
def F_X_ships (x1 : Int32) (x2 : Int32) (s : sv_S) : Option (Int32 × sv_S) :=
  (F_Wa_has x1 s).bind fun r1 =>
  if r1 = 0 then
    some ((-1 : Int32), s)
  else
  (F_X_isDay x2 s).bind fun r2 =>
  if r2 = 0 then
    some ((-2 : Int32), s)
  else
  (F_Wa_goes x1 x2 s).bind fun r3 =>
  if r3.1 = 0 then
    some ((0 : Int32), r3.2)
  else
  some ((1 : Int32), r3.2)
theorem V_X_ships (E : sv_E) (d : Nat) (x1 : Int32) (x2 : Int32) (s : sv_S) : sv_V E m_X_ships (d + 5) ss_i 0 (lv_args 0 [sv_r E 64, .int x1, .int x2]) [] (ss_e s) (F_X_ships x1 x2 s) := by
  show sv_V E m_X_ships (d + 5) ss_i 0 [(0, sv_r E 64), (1, .int x1), (2, .int x2)] [] (ss_e s) _
  unfold F_X_ships
  refine sv_aload_n (pc := 0) 0 (sv_d k_X_ships 0 rfl) rfl rfl ?_
  refine sv_getf (pc := 1) 6 (sv_d k_X_ships 1 rfl) cf11 (by decide) w522 kd64 (ss_lt (by decide)) (lr_64_6 E _) ?_
  refine sv_iload_n (pc := 4) 1 (sv_d k_X_ships 2 rfl) rfl rfl ?_
  refine sv_callV (pc := 5) (ψ := (ss_pi s)) (As := [.int x1]) (rest := []) (c := 163) (sv_d k_X_ships 3 rfl) g_Wa_has w1105 in_Wa_has se_Wa_has cf10 kd163 (ss_lt (by decide)) rfl (Nat.le_of_ble_eq_true rfl) (V_Wa_has E (d + 4) x1 s) (Nat.le_of_ble_eq_true rfl) rfl (fun r1 => ?_)
  show sv_V E _ _ _ 8 _ [.int r1] (ss_e s) _
  refine sv_if_ne (pc := 8) (tgt := 13) (sv_d k_X_ships 4 rfl) (by decide) ?_ ?_
  · refine sv_iload_n (pc := 13) 2 (sv_d k_X_ships 7 rfl) rfl rfl ?_
    refine sv_callS (pc := 14) (ψ := (ss_pi s)) (As := [.int x2]) (rest := []) (sv_d k_X_ships 8 rfl) g_X_isDay w621 st_X_isDay rfl (Nat.le_of_ble_eq_true rfl) (V_X_isDay E (d + 4) x2 s) (Nat.le_of_ble_eq_true rfl) rfl (fun r2 => ?_)
    show sv_V E _ _ _ 17 _ [.int r2] (ss_e s) _
    refine sv_if_ne (pc := 17) (tgt := 23) (sv_d k_X_ships 9 rfl) (by decide) ?_ ?_
    · refine sv_aload_n (pc := 23) 0 (sv_d k_X_ships 12 rfl) rfl rfl ?_
      refine sv_getf (pc := 24) 6 (sv_d k_X_ships 13 rfl) cf11 (by decide) w522 kd64 (ss_lt (by decide)) (lr_64_6 E _) ?_
      refine sv_iload_n (pc := 27) 1 (sv_d k_X_ships 14 rfl) rfl rfl ?_
      refine sv_iload_n (pc := 28) 2 (sv_d k_X_ships 15 rfl) rfl rfl ?_
      refine sv_callV (pc := 29) (ψ := ss_i) (As := [.int x1, .int x2]) (rest := []) (c := 163) (sv_d k_X_ships 16 rfl) g_Wa_goes w1109 in_Wa_goes se_Wa_goes cf10 kd163 (ss_lt (by decide)) rfl (Nat.le_of_ble_eq_true rfl) (V_Wa_goes E (d + 0) x1 x2 s) (Nat.le_of_ble_eq_true rfl) rfl (fun r3 => ?_)
      show sv_V E _ _ _ 32 _ [.int r3.1] (ss_e r3.2) _
      refine sv_if_eq (pc := 32) (tgt := 39) (sv_d k_X_ships 17 rfl) (by decide) ?_ ?_
      · refine sv_iconst (pc := 39) (v := (0 : Int32)) (sv_d k_X_ships 20 rfl) (by decide) ?_
        exact sv_ret (pc := 40) (sv_d k_X_ships 21 rfl) ⟨_, rfl, rfl⟩ rfl
      · refine sv_iconst (pc := 35) (v := (1 : Int32)) (sv_d k_X_ships 18 rfl) (by decide) ?_
        refine sv_goto (pc := 36) (tgt := 40) (sv_d k_X_ships 19 rfl) (by decide) ?_
        exact sv_ret (pc := 40) (sv_d k_X_ships 21 rfl) ⟨_, rfl, rfl⟩ rfl
    · refine sv_bipush (pc := 20) (v := (-2 : Int32)) (sv_d k_X_ships 10 rfl) (by decide) ?_
      exact sv_ret (pc := 22) (sv_d k_X_ships 11 rfl) ⟨_, rfl, rfl⟩ rfl
  · refine sv_iconst (pc := 11) (v := (-1 : Int32)) (sv_d k_X_ships 5 rfl) (by decide) ?_
    exact sv_ret (pc := 12) (sv_d k_X_ships 6 rfl) ⟨_, rfl, rfl⟩ rfl
/-! X_takings -/
abbrev m_X_takings : sv_M := (yX11_takings, cX11_takings, 3, (some .int))
def t_X_takings : List (Nat × Instr × Nat) := [(0, .iload_n 1, 1), (1, .invokestatic 105, 3), (4, .ifCond .ne 5, 3), (7, .iconst (-1), 1), (8, .ireturn, 1), (9, .iload_n 2, 1), (10, .invokestatic 122, 3), (13, .ifCond .eq 15, 3), (16, .aload_n 0, 1), (17, .getfield 64, 3), (20, .iload_n 1, 1), (21, .iload_n 2, 1), (22, .invokevirtual 311, 3), (25, .goto 5, 3), (28, .bipush (-2), 2), (30, .ireturn, 1)]
theorem k_X_takings : sv_tk m_X_takings.2.1 t_X_takings := by decide +kernel
theorem g_X_takings : sv_G m_X_takings 2 := ⟨by decide +kernel, sv_in 1123 (by decide +kernel) rfl, sv_in 90 (by decide +kernel) rfl, ⟨by decide, by decide⟩, by decide +kernel, by decide⟩
theorem in_X_takings : Cond.instanceMethod m_X_takings.1 ∈ sv_T := sv_in 1121 (by decide +kernel) rfl
theorem se_X_takings : Cond.selects m_X_takings.1.cls m_X_takings.1 m_X_takings.1 ∈ sv_T := sv_in 1122 (by decide +kernel) rfl
def F_X_takings (x1 : Int32) (x2 : Int32) (s : sv_S) : Option (Int32 × sv_S) :=
  (F_X_isOwnerOrNoOne x1 s).bind fun r1 =>
  if r1 = 0 then
    some ((-1 : Int32), s)
  else
  (F_X_isDay x2 s).bind fun r2 =>
  if r2 = 0 then
    some ((-2 : Int32), s)
  else
  (F_Wa_sumTaken x1 x2 s).bind fun r3 =>
  some (r3.1, r3.2)
theorem V_X_takings (E : sv_E) (d : Nat) (x1 : Int32) (x2 : Int32) (s : sv_S) : sv_V E m_X_takings (d + 6) ss_i 0 (lv_args 0 [sv_r E 64, .int x1, .int x2]) [] (ss_e s) (F_X_takings x1 x2 s) := by
  show sv_V E m_X_takings (d + 6) ss_i 0 [(0, sv_r E 64), (1, .int x1), (2, .int x2)] [] (ss_e s) _
  unfold F_X_takings
  refine sv_iload_n (pc := 0) 1 (sv_d k_X_takings 0 rfl) rfl rfl ?_
  refine sv_callS (pc := 1) (ψ := (ss_pi s)) (As := [.int x1]) (rest := []) (sv_d k_X_takings 1 rfl) g_X_isOwnerOrNoOne w585 st_X_isOwnerOrNoOne rfl (Nat.le_of_ble_eq_true rfl) (V_X_isOwnerOrNoOne E (d + 4) x1 s) (Nat.le_of_ble_eq_true rfl) rfl (fun r1 => ?_)
  show sv_V E _ _ _ 4 _ [.int r1] (ss_e s) _
  refine sv_if_ne (pc := 4) (tgt := 9) (sv_d k_X_takings 2 rfl) (by decide) ?_ ?_
  · refine sv_iload_n (pc := 9) 2 (sv_d k_X_takings 5 rfl) rfl rfl ?_
    refine sv_callS (pc := 10) (ψ := (ss_pi s)) (As := [.int x2]) (rest := []) (sv_d k_X_takings 6 rfl) g_X_isDay w621 st_X_isDay rfl (Nat.le_of_ble_eq_true rfl) (V_X_isDay E (d + 5) x2 s) (Nat.le_of_ble_eq_true rfl) rfl (fun r2 => ?_)
    show sv_V E _ _ _ 13 _ [.int r2] (ss_e s) _
    refine sv_if_eq (pc := 13) (tgt := 28) (sv_d k_X_takings 7 rfl) (by decide) ?_ ?_
    · refine sv_bipush (pc := 28) (v := (-2 : Int32)) (sv_d k_X_takings 14 rfl) (by decide) ?_
      exact sv_ret (pc := 30) (sv_d k_X_takings 15 rfl) ⟨_, rfl, rfl⟩ rfl
    · refine sv_aload_n (pc := 16) 0 (sv_d k_X_takings 8 rfl) rfl rfl ?_
      refine sv_getf (pc := 17) 6 (sv_d k_X_takings 9 rfl) cf11 (by decide) w522 kd64 (ss_lt (by decide)) (lr_64_6 E _) ?_
      refine sv_iload_n (pc := 20) 1 (sv_d k_X_takings 10 rfl) rfl rfl ?_
      refine sv_iload_n (pc := 21) 2 (sv_d k_X_takings 11 rfl) rfl rfl ?_
      refine sv_callV (pc := 22) (ψ := ss_i) (As := [.int x1, .int x2]) (rest := []) (c := 163) (sv_d k_X_takings 12 rfl) g_Wa_sumTaken w1124 in_Wa_sumTaken se_Wa_sumTaken cf10 kd163 (ss_lt (by decide)) rfl (Nat.le_of_ble_eq_true rfl) (V_Wa_sumTaken E (d + 0) x1 x2 s) (Nat.le_of_ble_eq_true rfl) rfl (fun r3 => ?_)
      show sv_V E _ _ _ 25 _ [.int r3.1] (ss_e r3.2) _
      refine sv_goto (pc := 25) (tgt := 30) (sv_d k_X_takings 13 rfl) (by decide) ?_
      exact sv_ret (pc := 30) (sv_d k_X_takings 15 rfl) ⟨_, rfl, rfl⟩ rfl
  · refine sv_iconst (pc := 7) (v := (-1 : Int32)) (sv_d k_X_takings 3 rfl) (by decide) ?_
    exact sv_ret (pc := 8) (sv_d k_X_takings 4 rfl) ⟨_, rfl, rfl⟩ rfl
/-! X_tries -/
abbrev m_X_tries : sv_M := (yX11_tries, cX11_tries, 7, (some .int))
def t_X_tries : List (Nat × Instr × Nat) := [(0, .aload_n 0, 1), (1, .getfield 37, 3), (4, .iload_n 1, 1), (5, .invokevirtual 183, 3), (8, .ifCond .ne 5, 3), (11, .iconst (-1), 1), (12, .ireturn, 1), (13, .aload_n 0, 1), (14, .getfield 37, 3), (17, .iload_n 1, 1), (18, .invokevirtual 174, 3), (21, .astore 4, 2), (23, .aload 4, 2), (25, .getfield 190, 3), (28, .iload_n 2, 1), (29, .invokestatic 152, 3), (32, .ifCond .eq 10, 3), (35, .iload_n 3, 1), (36, .invokestatic 122, 3), (39, .ifCond .ne 6, 3), (42, .bipush (-2), 2), (44, .ireturn, 1), (45, .aload 4, 2), (47, .getfield 186, 3), (50, .ifCond .eq 6, 3), (53, .bipush (-3), 2), (55, .ireturn, 1), (56, .aload 4, 2), (58, .getfield 223, 3), (61, .istore 5, 2), (63, .aload 4, 2), (65, .iload_n 2, 1), (66, .putfield 223, 3), (69, .aload_n 0, 1), (70, .getfield 64, 3), (73, .iconst (-1), 1), (74, .iload_n 3, 1), (75, .invokevirtual 311, 3), (78, .istore 6, 2), (80, .aload 4, 2), (82, .iload 5, 2), (84, .putfield 223, 3), (87, .iload 6, 2), (89, .ireturn, 1)]
theorem k_X_tries : sv_tk m_X_tries.2.1 t_X_tries := by decide +kernel
theorem g_X_tries : sv_G m_X_tries 3 := ⟨by decide +kernel, sv_in 1136 (by decide +kernel) rfl, sv_in 90 (by decide +kernel) rfl, ⟨by decide, by decide⟩, by decide +kernel, by decide⟩
theorem in_X_tries : Cond.instanceMethod m_X_tries.1 ∈ sv_T := sv_in 1134 (by decide +kernel) rfl
theorem se_X_tries : Cond.selects m_X_tries.1.cls m_X_tries.1 m_X_tries.1 ∈ sv_T := sv_in 1135 (by decide +kernel) rfl
def F_X_tries (x1 : Int32) (x2 : Int32) (x3 : Int32) (s : sv_S) : Option (Int32 × sv_S) :=
  (F_Rs_has x1 s).bind fun r1 =>
  if r1 = 0 then
    some ((-1 : Int32), s)
  else
  (F_Rs_row x1 s).bind fun r2 =>
  if ss_ok2 s r2 5 = true then
    (F_X_isPence (s.1 r2 1) x2 s).bind fun r4 =>
    if r4 = 0 then
      some ((-2 : Int32), s)
    else
    (F_X_isDay x3 s).bind fun r5 =>
    if r5 = 0 then
      some ((-2 : Int32), s)
    else
    if (s.1 r2 11) = 0 then
      ss_let (s.1 r2 5) fun v6 =>
      ss_let (ss_setI s r2 5 x2) fun s7 =>
      (F_Wa_sumTaken (-1 : Int32) x3 s7).bind fun r8 =>
      ss_let (ss_setI r8.2 r2 5 v6) fun s9 =>
      some (r8.1, s9)
    else
    some ((-3 : Int32), s)
  else none
theorem V_X_tries (E : sv_E) (d : Nat) (x1 : Int32) (x2 : Int32) (x3 : Int32) (s : sv_S) : sv_V E m_X_tries (d + 6) ss_i 0 (lv_args 0 [sv_r E 64, .int x1, .int x2, .int x3]) [] (ss_e s) (F_X_tries x1 x2 x3 s) := by
  show sv_V E m_X_tries (d + 6) ss_i 0 [(0, sv_r E 64), (1, .int x1), (2, .int x2), (3, .int x3)] [] (ss_e s) _
  unfold F_X_tries
  refine sv_aload_n (pc := 0) 0 (sv_d k_X_tries 0 rfl) rfl rfl ?_
  refine sv_getf (pc := 1) 3 (sv_d k_X_tries 1 rfl) cf11 (by decide) w519 kd64 (ss_lt (by decide)) (lr_64_3 E _) ?_
  refine sv_iload_n (pc := 4) 1 (sv_d k_X_tries 2 rfl) rfl rfl ?_
  refine sv_callV (pc := 5) (ψ := (ss_pi s)) (As := [.int x1]) (rest := []) (c := 88) (sv_d k_X_tries 3 rfl) g_Rs_has w842 in_Rs_has se_Rs_has cf6 kd88 (ss_lt (by decide)) rfl (Nat.le_of_ble_eq_true rfl) (V_Rs_has E (d + 5) x1 s) (Nat.le_of_ble_eq_true rfl) rfl (fun r1 => ?_)
  show sv_V E _ _ _ 8 _ [.int r1] (ss_e s) _
  refine sv_if_ne (pc := 8) (tgt := 13) (sv_d k_X_tries 4 rfl) (by decide) ?_ ?_
  · refine sv_aload_n (pc := 13) 0 (sv_d k_X_tries 7 rfl) rfl rfl ?_
    refine sv_getf (pc := 14) 3 (sv_d k_X_tries 8 rfl) cf11 (by decide) w519 kd64 (ss_lt (by decide)) (lr_64_3 E _) ?_
    refine sv_iload_n (pc := 17) 1 (sv_d k_X_tries 9 rfl) rfl rfl ?_
    refine sv_callV (pc := 18) (ψ := (ss_pq E s)) (As := [.int x1]) (rest := []) (c := 88) (sv_d k_X_tries 10 rfl) g_Rs_row w834 in_Rs_row se_Rs_row cf6 kd88 (ss_lt (by decide)) rfl (Nat.le_of_ble_eq_true rfl) (V_Rs_row E (d + 5) x1 s) (Nat.le_of_ble_eq_true rfl) rfl (fun r2 => ?_)
    show sv_V E _ _ _ 21 _ [sv_r E r2] (ss_e s) _
    refine ss_gd2 (fun h_g3 o_g3 l_g3 => ?_)
    refine sv_astore (pc := 21) (lv' := [(4, sv_r E r2), (0, sv_r E 64), (1, .int x1), (2, .int x2), (3, .int x3)]) (sv_d k_X_tries 11 rfl) (by decide) rfl ?_
    refine sv_aload (pc := 23) 0 (sv_d k_X_tries 12 rfl) rfl ?_
    refine sv_getN (pc := 25) 1 (sv_d k_X_tries 13 rfl) cf5 (by decide) w264 h_g3 l_g3 rfl ?_
    refine sv_iload_n (pc := 28) 3 (sv_d k_X_tries 14 rfl) rfl rfl ?_
    refine sv_callS (pc := 29) (ψ := (ss_pi s)) (As := [.int (s.1 r2 1), .int x2]) (rest := []) (sv_d k_X_tries 15 rfl) g_X_isPence w808 st_X_isPence rfl (Nat.le_of_ble_eq_true rfl) (V_X_isPence E (d + 5) (s.1 r2 1) x2 s) (Nat.le_of_ble_eq_true rfl) rfl (fun r4 => ?_)
    show sv_V E _ _ _ 32 _ [.int r4] (ss_e s) _
    refine sv_if_eq (pc := 32) (tgt := 42) (sv_d k_X_tries 16 rfl) (by decide) ?_ ?_
    · refine sv_bipush (pc := 42) (v := (-2 : Int32)) (sv_d k_X_tries 20 rfl) (by decide) ?_
      exact sv_ret (pc := 44) (sv_d k_X_tries 21 rfl) ⟨_, rfl, rfl⟩ rfl
    · refine sv_iload_n (pc := 35) 4 (sv_d k_X_tries 17 rfl) rfl rfl ?_
      refine sv_callS (pc := 36) (ψ := (ss_pi s)) (As := [.int x3]) (rest := []) (sv_d k_X_tries 18 rfl) g_X_isDay w621 st_X_isDay rfl (Nat.le_of_ble_eq_true rfl) (V_X_isDay E (d + 5) x3 s) (Nat.le_of_ble_eq_true rfl) rfl (fun r5 => ?_)
      show sv_V E _ _ _ 39 _ [.int r5] (ss_e s) _
      refine sv_if_ne (pc := 39) (tgt := 45) (sv_d k_X_tries 19 rfl) (by decide) ?_ ?_
      · refine sv_aload (pc := 45) 0 (sv_d k_X_tries 22 rfl) rfl ?_
        refine sv_getN (pc := 47) 11 (sv_d k_X_tries 23 rfl) cf5 (by decide) w301 h_g3 l_g3 rfl ?_
        refine sv_if_eq (pc := 50) (tgt := 56) (sv_d k_X_tries 24 rfl) (by decide) ?_ ?_
        · refine sv_aload (pc := 56) 0 (sv_d k_X_tries 27 rfl) rfl ?_
          refine sv_getN (pc := 58) 5 (sv_d k_X_tries 28 rfl) cf5 (by decide) w286 h_g3 l_g3 rfl ?_
          refine ss_top (fun v6 e_v6 => ?_)
          refine sv_istore (pc := 61) (lv' := [(5, .int v6), (4, sv_r E r2), (0, sv_r E 64), (1, .int x1), (2, .int x2), (3, .int x3)]) (sv_d k_X_tries 29 rfl) (by decide) rfl ?_
          refine sv_aload (pc := 63) 1 (sv_d k_X_tries 30 rfl) rfl ?_
          refine sv_iload_n (pc := 65) 4 (sv_d k_X_tries 31 rfl) rfl rfl ?_
          refine ss_putN (pc := 66) 5 (sv_d k_X_tries 32 rfl) cf5 (by decide) rfl w286 h_g3 l_g3 rfl rfl (fun _ => rfl) (ss_lets (fun s7 e_s7 => ?_))
          have l_g3 : r2 < 243 + s7.2.2.2.2.1 := by rw [e_s7]; exact l_g3
          refine sv_aload_n (pc := 69) 2 (sv_d k_X_tries 33 rfl) rfl rfl ?_
          refine sv_getf (pc := 70) 6 (sv_d k_X_tries 34 rfl) cf11 (by decide) w522 kd64 (ss_lt (by decide)) (lr_64_6 E _) ?_
          refine sv_iconst (pc := 73) (v := (-1 : Int32)) (sv_d k_X_tries 35 rfl) (by decide) ?_
          refine sv_iload_n (pc := 74) 5 (sv_d k_X_tries 36 rfl) rfl rfl ?_
          refine sv_callV (pc := 75) (ψ := ss_i) (As := [.int (-1 : Int32), .int x3]) (rest := []) (c := 163) (sv_d k_X_tries 37 rfl) g_Wa_sumTaken w1124 in_Wa_sumTaken se_Wa_sumTaken cf10 kd163 (ss_lt (by decide)) rfl (Nat.le_of_ble_eq_true rfl) (V_Wa_sumTaken E (d + 0) (-1 : Int32) x3 s7) (Nat.le_of_ble_eq_true rfl) rfl (fun r8 => ?_)
          show sv_V E _ _ _ 78 _ [.int r8.1] (ss_e r8.2) _
          refine sv_istore (pc := 78) (lv' := [(6, .int r8.1), (5, .int v6), (4, sv_r E r2), (0, sv_r E 64), (1, .int x1), (2, .int x2), (3, .int x3)]) (sv_d k_X_tries 38 rfl) (by decide) rfl ?_
          refine sv_aload (pc := 80) 2 (sv_d k_X_tries 39 rfl) rfl ?_
          refine sv_iload (pc := 82) 1 (sv_d k_X_tries 40 rfl) rfl ?_
          refine ss_putN (pc := 84) 5 (sv_d k_X_tries 41 rfl) cf5 (by decide) rfl w286 h_g3 (ss_l5 h_g3) rfl rfl (fun _ => rfl) (ss_lets (fun s9 e_s9 => ?_))
          refine sv_iload (pc := 87) 0 (sv_d k_X_tries 42 rfl) rfl ?_
          exact sv_ret (pc := 89) (sv_d k_X_tries 43 rfl) ⟨_, rfl, rfl⟩ rfl
        · refine sv_bipush (pc := 53) (v := (-3 : Int32)) (sv_d k_X_tries 25 rfl) (by decide) ?_
          exact sv_ret (pc := 55) (sv_d k_X_tries 26 rfl) ⟨_, rfl, rfl⟩ rfl
      · refine sv_bipush (pc := 42) (v := (-2 : Int32)) (sv_d k_X_tries 20 rfl) (by decide) ?_
        exact sv_ret (pc := 44) (sv_d k_X_tries 21 rfl) ⟨_, rfl, rfl⟩ rfl
  · refine sv_iconst (pc := 11) (v := (-1 : Int32)) (sv_d k_X_tries 5 rfl) (by decide) ?_
    exact sv_ret (pc := 12) (sv_d k_X_tries 6 rfl) ⟨_, rfl, rfl⟩ rfl
/-! X_list -/
abbrev m_X_list : sv_M := (yX11_list, cX11_list, 3, (some .int))
def t_X_list : List (Nat × Instr × Nat) := [(0, .aload_n 0, 1), (1, .getfield 37, 3), (4, .iload_n 1, 1), (5, .invokevirtual 183, 3), (8, .ifCond .ne 5, 3), (11, .iconst (-1), 1), (12, .ireturn, 1), (13, .aload_n 0, 1), (14, .getfield 37, 3), (17, .iload_n 1, 1), (18, .invokevirtual 174, 3), (21, .astore_n 2, 1), (22, .aload_n 0, 1), (23, .getfield 64, 3), (26, .iload_n 1, 1), (27, .invokevirtual 314, 3), (30, .ifCond .ne 18, 3), (33, .aload_n 2, 1), (34, .getfield 186, 3), (37, .ifCond .ne 11, 3), (40, .aload_n 2, 1), (41, .getfield 190, 3), (44, .iconst 3, 1), (45, .if_icmp .ne 6, 3), (48, .bipush (-3), 2), (50, .ireturn, 1), (51, .aload_n 0, 1), (52, .getfield 12, 3), (55, .iconst (-1), 1), (56, .aload_n 2, 1), (57, .getfield 204, 3), (60, .aload_n 2, 1), (61, .getfield 207, 3), (64, .invokevirtual 108, 3), (67, .ifCond .ge 6, 3), (70, .bipush (-3), 2), (72, .ireturn, 1), (73, .aload_n 0, 1), (74, .getfield 64, 3), (77, .invokevirtual 317, 3), (80, .ifCond .eq 8, 3), (83, .bipush (-4), 2), (85, .goto 11, 3), (88, .aload_n 0, 1), (89, .getfield 64, 3), (92, .iload_n 1, 1), (93, .invokevirtual 320, 3), (96, .ireturn, 1)]
theorem k_X_list : sv_tk m_X_list.2.1 t_X_list := by decide +kernel
theorem g_X_list : sv_G m_X_list 1 := ⟨by decide +kernel, sv_in 1140 (by decide +kernel) rfl, sv_in 90 (by decide +kernel) rfl, ⟨by decide, by decide⟩, by decide +kernel, by decide⟩
theorem in_X_list : Cond.instanceMethod m_X_list.1 ∈ sv_T := sv_in 1138 (by decide +kernel) rfl
theorem se_X_list : Cond.selects m_X_list.1.cls m_X_list.1 m_X_list.1 ∈ sv_T := sv_in 1139 (by decide +kernel) rfl
def F_X_list (x1 : Int32) (s : sv_S) : Option (Int32 × sv_S) :=
  (F_Rs_has x1 s).bind fun r1 =>
  if r1 = 0 then
    some ((-1 : Int32), s)
  else
  (F_Rs_row x1 s).bind fun r2 =>
  if ss_ok2 s r2 5 = true then
    (F_Wa_isListed x1 s).bind fun r4 =>
    if r4 = 0 then
      if (s.1 r2 11) = 0 then
        if (s.1 r2 1) = (3 : Int32) then
          some ((-3 : Int32), s)
        else
        (F_Ro_between (-1 : Int32) (s.1 r2 3) (s.1 r2 4) s).bind fun r5 =>
        if 0 ≤ r5 then
          (F_Wa_listIsFull s).bind fun r6 =>
          if r6 = 0 then
            (F_Wa_enlist x1 s).bind fun r7 =>
            some (r7.1, r7.2)
          else
          some ((-4 : Int32), s)
        else
        some ((-3 : Int32), s)
      else
      some ((-3 : Int32), s)
    else
    some ((-3 : Int32), s)
  else none
theorem V_X_list (E : sv_E) (d : Nat) (x1 : Int32) (s : sv_S) : sv_V E m_X_list (d + 1) ss_i 0 (lv_args 0 [sv_r E 64, .int x1]) [] (ss_e s) (F_X_list x1 s) := by
  show sv_V E m_X_list (d + 1) ss_i 0 [(0, sv_r E 64), (1, .int x1)] [] (ss_e s) _
  unfold F_X_list
  refine sv_aload_n (pc := 0) 0 (sv_d k_X_list 0 rfl) rfl rfl ?_
  refine sv_getf (pc := 1) 3 (sv_d k_X_list 1 rfl) cf11 (by decide) w519 kd64 (ss_lt (by decide)) (lr_64_3 E _) ?_
  refine sv_iload_n (pc := 4) 1 (sv_d k_X_list 2 rfl) rfl rfl ?_
  refine sv_callV (pc := 5) (ψ := (ss_pi s)) (As := [.int x1]) (rest := []) (c := 88) (sv_d k_X_list 3 rfl) g_Rs_has w842 in_Rs_has se_Rs_has cf6 kd88 (ss_lt (by decide)) rfl (Nat.le_of_ble_eq_true rfl) (V_Rs_has E (d + 0) x1 s) (Nat.le_of_ble_eq_true rfl) rfl (fun r1 => ?_)
  show sv_V E _ _ _ 8 _ [.int r1] (ss_e s) _
  refine sv_if_ne (pc := 8) (tgt := 13) (sv_d k_X_list 4 rfl) (by decide) ?_ ?_
  · refine sv_aload_n (pc := 13) 0 (sv_d k_X_list 7 rfl) rfl rfl ?_
    refine sv_getf (pc := 14) 3 (sv_d k_X_list 8 rfl) cf11 (by decide) w519 kd64 (ss_lt (by decide)) (lr_64_3 E _) ?_
    refine sv_iload_n (pc := 17) 1 (sv_d k_X_list 9 rfl) rfl rfl ?_
    refine sv_callV (pc := 18) (ψ := (ss_pq E s)) (As := [.int x1]) (rest := []) (c := 88) (sv_d k_X_list 10 rfl) g_Rs_row w834 in_Rs_row se_Rs_row cf6 kd88 (ss_lt (by decide)) rfl (Nat.le_of_ble_eq_true rfl) (V_Rs_row E (d + 0) x1 s) (Nat.le_of_ble_eq_true rfl) rfl (fun r2 => ?_)
    show sv_V E _ _ _ 21 _ [sv_r E r2] (ss_e s) _
    refine ss_gd2 (fun h_g3 o_g3 l_g3 => ?_)
    refine sv_astore_n (pc := 21) (lv' := [(2, sv_r E r2), (0, sv_r E 64), (1, .int x1)]) (sv_d k_X_list 11 rfl) rfl (by decide) rfl ?_
    refine sv_aload_n (pc := 22) 1 (sv_d k_X_list 12 rfl) rfl rfl ?_
    refine sv_getf (pc := 23) 6 (sv_d k_X_list 13 rfl) cf11 (by decide) w522 kd64 (ss_lt (by decide)) (lr_64_6 E _) ?_
    refine sv_iload_n (pc := 26) 2 (sv_d k_X_list 14 rfl) rfl rfl ?_
    refine sv_callV (pc := 27) (ψ := (ss_pi s)) (As := [.int x1]) (rest := []) (c := 163) (sv_d k_X_list 15 rfl) g_Wa_isListed w1141 in_Wa_isListed se_Wa_isListed cf10 kd163 (ss_lt (by decide)) rfl (Nat.le_of_ble_eq_true rfl) (V_Wa_isListed E (d + 0) x1 s) (Nat.le_of_ble_eq_true rfl) rfl (fun r4 => ?_)
    show sv_V E _ _ _ 30 _ [.int r4] (ss_e s) _
    refine sv_if_ne (pc := 30) (tgt := 48) (sv_d k_X_list 16 rfl) (by decide) ?_ ?_
    · refine sv_bipush (pc := 48) (v := (-3 : Int32)) (sv_d k_X_list 24 rfl) (by decide) ?_
      exact sv_ret (pc := 50) (sv_d k_X_list 25 rfl) ⟨_, rfl, rfl⟩ rfl
    · refine sv_aload_n (pc := 33) 0 (sv_d k_X_list 17 rfl) rfl rfl ?_
      refine sv_getN (pc := 34) 11 (sv_d k_X_list 18 rfl) cf5 (by decide) w301 h_g3 l_g3 rfl ?_
      refine sv_if_ne (pc := 37) (tgt := 48) (sv_d k_X_list 19 rfl) (by decide) ?_ ?_
      · refine sv_bipush (pc := 48) (v := (-3 : Int32)) (sv_d k_X_list 24 rfl) (by decide) ?_
        exact sv_ret (pc := 50) (sv_d k_X_list 25 rfl) ⟨_, rfl, rfl⟩ rfl
      · refine sv_aload_n (pc := 40) 0 (sv_d k_X_list 20 rfl) rfl rfl ?_
        refine sv_getN (pc := 41) 1 (sv_d k_X_list 21 rfl) cf5 (by decide) w264 h_g3 l_g3 rfl ?_
        refine sv_iconst (pc := 44) (v := (3 : Int32)) (sv_d k_X_list 22 rfl) (by decide) ?_
        refine sv_icmp_ne (pc := 45) (tgt := 51) (sv_d k_X_list 23 rfl) (by decide) ?_ ?_
        · refine sv_aload_n (pc := 51) 1 (sv_d k_X_list 26 rfl) rfl rfl ?_
          refine sv_getf (pc := 52) 0 (sv_d k_X_list 27 rfl) cf11 (by decide) w516 kd64 (ss_lt (by decide)) (lr_64_0 E _) ?_
          refine sv_iconst (pc := 55) (v := (-1 : Int32)) (sv_d k_X_list 28 rfl) (by decide) ?_
          refine sv_aload_n (pc := 56) 0 (sv_d k_X_list 29 rfl) rfl rfl ?_
          refine sv_getN (pc := 57) 3 (sv_d k_X_list 30 rfl) cf5 (by decide) w275 h_g3 l_g3 rfl ?_
          refine sv_aload_n (pc := 60) 0 (sv_d k_X_list 31 rfl) rfl rfl ?_
          refine sv_getN (pc := 61) 4 (sv_d k_X_list 32 rfl) cf5 (by decide) w280 h_g3 l_g3 rfl ?_
          refine sv_callV (pc := 64) (ψ := (ss_pi s)) (As := [.int (-1 : Int32), .int (s.1 r2 3), .int (s.1 r2 4)]) (rest := []) (c := 65) (sv_d k_X_list 33 rfl) g_Ro_between w588 in_Ro_between se_Ro_between cf7 kd65 (ss_lt (by decide)) rfl (Nat.le_of_ble_eq_true rfl) (V_Ro_between E (d + 0) (-1 : Int32) (s.1 r2 3) (s.1 r2 4) s) (Nat.le_of_ble_eq_true rfl) rfl (fun r5 => ?_)
          show sv_V E _ _ _ 67 _ [.int r5] (ss_e s) _
          refine sv_if_ge (pc := 67) (tgt := 73) (sv_d k_X_list 34 rfl) (by decide) ?_ ?_
          · refine sv_aload_n (pc := 73) 1 (sv_d k_X_list 37 rfl) rfl rfl ?_
            refine sv_getf (pc := 74) 6 (sv_d k_X_list 38 rfl) cf11 (by decide) w522 kd64 (ss_lt (by decide)) (lr_64_6 E _) ?_
            refine sv_callV (pc := 77) (ψ := (ss_pi s)) (As := []) (rest := []) (c := 163) (sv_d k_X_list 39 rfl) g_Wa_listIsFull w1145 in_Wa_listIsFull se_Wa_listIsFull cf10 kd163 (ss_lt (by decide)) rfl (Nat.le_of_ble_eq_true rfl) (V_Wa_listIsFull E (d + 0) s) (Nat.le_of_ble_eq_true rfl) rfl (fun r6 => ?_)
            show sv_V E _ _ _ 80 _ [.int r6] (ss_e s) _
            refine sv_if_eq (pc := 80) (tgt := 88) (sv_d k_X_list 40 rfl) (by decide) ?_ ?_
            · refine sv_aload_n (pc := 88) 1 (sv_d k_X_list 43 rfl) rfl rfl ?_
              refine sv_getf (pc := 89) 6 (sv_d k_X_list 44 rfl) cf11 (by decide) w522 kd64 (ss_lt (by decide)) (lr_64_6 E _) ?_
              refine sv_iload_n (pc := 92) 2 (sv_d k_X_list 45 rfl) rfl rfl ?_
              refine sv_callV (pc := 93) (ψ := ss_i) (As := [.int x1]) (rest := []) (c := 163) (sv_d k_X_list 46 rfl) g_Wa_enlist w1149 in_Wa_enlist se_Wa_enlist cf10 kd163 (ss_lt (by decide)) rfl (Nat.le_of_ble_eq_true rfl) (V_Wa_enlist E (d + 0) x1 s) (Nat.le_of_ble_eq_true rfl) rfl (fun r7 => ?_)
              show sv_V E _ _ _ 96 _ [.int r7.1] (ss_e r7.2) _
              exact sv_ret (pc := 96) (sv_d k_X_list 47 rfl) ⟨_, rfl, rfl⟩ rfl
            · refine sv_bipush (pc := 83) (v := (-4 : Int32)) (sv_d k_X_list 41 rfl) (by decide) ?_
              refine sv_goto (pc := 85) (tgt := 96) (sv_d k_X_list 42 rfl) (by decide) ?_
              exact sv_ret (pc := 96) (sv_d k_X_list 47 rfl) ⟨_, rfl, rfl⟩ rfl
          · refine sv_bipush (pc := 70) (v := (-3 : Int32)) (sv_d k_X_list 35 rfl) (by decide) ?_
            exact sv_ret (pc := 72) (sv_d k_X_list 36 rfl) ⟨_, rfl, rfl⟩ rfl
        · refine sv_bipush (pc := 48) (v := (-3 : Int32)) (sv_d k_X_list 24 rfl) (by decide) ?_
          exact sv_ret (pc := 50) (sv_d k_X_list 25 rfl) ⟨_, rfl, rfl⟩ rfl
  · refine sv_iconst (pc := 11) (v := (-1 : Int32)) (sv_d k_X_list 5 rfl) (by decide) ?_
    exact sv_ret (pc := 12) (sv_d k_X_list 6 rfl) ⟨_, rfl, rfl⟩ rfl
/-! X_listless -/
abbrev m_X_listless : sv_M := (yX11_listless, cX11_listless, 2, (some .int))
def t_X_listless : List (Nat × Instr × Nat) := [(0, .aload_n 0, 1), (1, .getfield 64, 3), (4, .getfield 323, 3), (7, .istore_n 1, 1), (8, .aload_n 0, 1), (9, .getfield 64, 3), (12, .iconst 0, 1), (13, .putfield 323, 3), (16, .iload_n 1, 1), (17, .ireturn, 1)]
theorem k_X_listless : sv_tk m_X_listless.2.1 t_X_listless := by decide +kernel
theorem g_X_listless : sv_G m_X_listless 0 := ⟨by decide +kernel, sv_in 1156 (by decide +kernel) rfl, sv_in 90 (by decide +kernel) rfl, ⟨by decide, by decide⟩, by decide +kernel, by decide⟩
theorem in_X_listless : Cond.instanceMethod m_X_listless.1 ∈ sv_T := sv_in 1154 (by decide +kernel) rfl
theorem se_X_listless : Cond.selects m_X_listless.1.cls m_X_listless.1 m_X_listless.1 ∈ sv_T := sv_in 1155 (by decide +kernel) rfl
def F_X_listless (s : sv_S) : Option (Int32 × sv_S) :=
  ss_let (s.1 163 14) fun v1 =>
  ss_let (ss_setI s 163 14 (0 : Int32)) fun s2 =>
  some (v1, s2)
theorem V_X_listless (E : sv_E) (d : Nat) (s : sv_S) : sv_V E m_X_listless (d + 0) ss_i 0 (lv_args 0 [sv_r E 64]) [] (ss_e s) (F_X_listless s) := by
  show sv_V E m_X_listless (d + 0) ss_i 0 [(0, sv_r E 64)] [] (ss_e s) _
  unfold F_X_listless
  refine sv_aload_n (pc := 0) 0 (sv_d k_X_listless 0 rfl) rfl rfl ?_
  refine sv_getf (pc := 1) 6 (sv_d k_X_listless 1 rfl) cf11 (by decide) w522 kd64 (ss_lt (by decide)) (lr_64_6 E _) ?_
  refine sv_getN (pc := 4) 14 (sv_d k_X_listless 2 rfl) cf10 (by decide) w434 kd163 (ss_lt (by decide)) rfl ?_
  refine ss_top (fun v1 e_v1 => ?_)
  refine sv_istore_n (pc := 7) (lv' := [(1, .int v1), (0, sv_r E 64)]) (sv_d k_X_listless 3 rfl) rfl (by decide) rfl ?_
  refine sv_aload_n (pc := 8) 1 (sv_d k_X_listless 4 rfl) rfl rfl ?_
  refine sv_getf (pc := 9) 6 (sv_d k_X_listless 5 rfl) cf11 (by decide) w522 kd64 (ss_lt (by decide)) (lr_64_6 E _) ?_
  refine sv_iconst (pc := 12) (v := (0 : Int32)) (sv_d k_X_listless 6 rfl) (by decide) ?_
  refine ss_putN (pc := 13) 14 (sv_d k_X_listless 7 rfl) cf10 (by decide) rfl w434 kd163 (ss_lt (by decide)) rfl rfl (fun _ => rfl) (ss_lets (fun s2 e_s2 => ?_))
  refine sv_iload_n (pc := 16) 0 (sv_d k_X_listless 8 rfl) rfl rfl ?_
  exact sv_ret (pc := 17) (sv_d k_X_listless 9 rfl) ⟨_, rfl, rfl⟩ rfl
/-! X_change -/
abbrev m_X_change : sv_M := (yX11_change, cX11_change, 3, (some .int))
def t_X_change : List (Nat × Instr × Nat) := [(0, .iload_n 1, 1), (1, .ifCond .ge 6, 3), (4, .bipush (-2), 2), (6, .ireturn, 1), (7, .aload_n 0, 1), (8, .getfield 64, 3), (11, .iload_n 1, 1), (12, .aload_n 0, 1), (13, .getfield 86, 3), (16, .invokevirtual 326, 3), (19, .istore_n 2, 1), (20, .iload_n 2, 1), (21, .ifCond .ge 8, 3), (24, .bipush (-3), 2), (26, .goto 4, 3), (29, .iload_n 2, 1), (30, .ireturn, 1)]
theorem k_X_change : sv_tk m_X_change.2.1 t_X_change := by decide +kernel
theorem g_X_change : sv_G m_X_change 1 := ⟨by decide +kernel, sv_in 1160 (by decide +kernel) rfl, sv_in 90 (by decide +kernel) rfl, ⟨by decide, by decide⟩, by decide +kernel, by decide⟩
theorem in_X_change : Cond.instanceMethod m_X_change.1 ∈ sv_T := sv_in 1158 (by decide +kernel) rfl
theorem se_X_change : Cond.selects m_X_change.1.cls m_X_change.1 m_X_change.1 ∈ sv_T := sv_in 1159 (by decide +kernel) rfl
def F_X_change (x1 : Int32) (s : sv_S) : Option (Int32 × sv_S) :=
  if 0 ≤ x1 then
    (F_Wa_fewestRaised x1 (s.1 64 9) s).bind fun r1 =>
    if 0 ≤ r1.1 then
      some (r1.1, r1.2)
    else
    some ((-3 : Int32), r1.2)
  else
  some ((-2 : Int32), s)
theorem V_X_change (E : sv_E) (d : Nat) (x1 : Int32) (s : sv_S) : sv_V E m_X_change (d + 7) ss_i 0 (lv_args 0 [sv_r E 64, .int x1]) [] (ss_e s) (F_X_change x1 s) := by
  show sv_V E m_X_change (d + 7) ss_i 0 [(0, sv_r E 64), (1, .int x1)] [] (ss_e s) _
  unfold F_X_change
  refine sv_iload_n (pc := 0) 1 (sv_d k_X_change 0 rfl) rfl rfl ?_
  refine sv_if_ge (pc := 1) (tgt := 7) (sv_d k_X_change 1 rfl) (by decide) ?_ ?_
  · refine sv_aload_n (pc := 7) 0 (sv_d k_X_change 4 rfl) rfl rfl ?_
    refine sv_getf (pc := 8) 6 (sv_d k_X_change 5 rfl) cf11 (by decide) w522 kd64 (ss_lt (by decide)) (lr_64_6 E _) ?_
    refine sv_iload_n (pc := 11) 1 (sv_d k_X_change 6 rfl) rfl rfl ?_
    refine sv_aload_n (pc := 12) 0 (sv_d k_X_change 7 rfl) rfl rfl ?_
    refine sv_getf (pc := 13) 9 (sv_d k_X_change 8 rfl) cf11 (by decide) w525 kd64 (ss_lt (by decide)) rfl ?_
    refine sv_callV (pc := 16) (ψ := ss_i) (As := [.int x1, .int (s.1 64 9)]) (rest := []) (c := 163) (sv_d k_X_change 9 rfl) g_Wa_fewestRaised w1161 in_Wa_fewestRaised se_Wa_fewestRaised cf10 kd163 (ss_lt (by decide)) rfl (Nat.le_of_ble_eq_true rfl) (V_Wa_fewestRaised E (d + 0) x1 (s.1 64 9) s) (Nat.le_of_ble_eq_true rfl) rfl (fun r1 => ?_)
    show sv_V E _ _ _ 19 _ [.int r1.1] (ss_e r1.2) _
    refine sv_istore_n (pc := 19) (lv' := [(2, .int r1.1), (0, sv_r E 64), (1, .int x1)]) (sv_d k_X_change 10 rfl) rfl (by decide) rfl ?_
    refine sv_iload_n (pc := 20) 0 (sv_d k_X_change 11 rfl) rfl rfl ?_
    refine sv_if_ge (pc := 21) (tgt := 29) (sv_d k_X_change 12 rfl) (by decide) ?_ ?_
    · refine sv_iload_n (pc := 29) 0 (sv_d k_X_change 15 rfl) rfl rfl ?_
      exact sv_ret (pc := 30) (sv_d k_X_change 16 rfl) ⟨_, rfl, rfl⟩ rfl
    · refine sv_bipush (pc := 24) (v := (-3 : Int32)) (sv_d k_X_change 13 rfl) (by decide) ?_
      refine sv_goto (pc := 26) (tgt := 30) (sv_d k_X_change 14 rfl) (by decide) ?_
      exact sv_ret (pc := 30) (sv_d k_X_change 16 rfl) ⟨_, rfl, rfl⟩ rfl
  · refine sv_bipush (pc := 4) (v := (-2 : Int32)) (sv_d k_X_change 2 rfl) (by decide) ?_
    exact sv_ret (pc := 6) (sv_d k_X_change 3 rfl) ⟨_, rfl, rfl⟩ rfl
/-! X_friends -/
abbrev m_X_friends : sv_M := (yX11_friends, cX11_friends, 9, (some .int))
def t_X_friends : List (Nat × Instr × Nat) := [(0, .iload_n 1, 1), (1, .invokestatic 89, 3), (4, .ifCond .eq 30, 3), (7, .iload_n 2, 1), (8, .invokestatic 168, 3), (11, .ifCond .eq 23, 3), (14, .iload_n 3, 1), (15, .iload 4, 2), (17, .invokestatic 93, 3), (20, .ifCond .eq 14, 3), (23, .iload 7, 2), (25, .ifCond .lt 9, 3), (28, .iload 7, 2), (30, .iconst 3, 1), (31, .if_icmp .le 5, 3), (34, .iconst (-1), 1), (35, .ireturn, 1), (36, .iload 5, 2), (38, .invokestatic 122, 3), (41, .ifCond .eq 18, 3), (44, .iload 6, 2), (46, .invokestatic 122, 3), (49, .ifCond .eq 10, 3), (52, .iload 5, 2), (54, .iload 6, 2), (56, .if_icmp .le 6, 3), (59, .bipush (-2), 2), (61, .ireturn, 1), (62, .aload_n 0, 1), (63, .getfield 46, 3), (66, .iload_n 1, 1), (67, .iload_n 2, 1), (68, .iload_n 3, 1), (69, .iload 4, 2), (71, .iload 5, 2), (73, .iload 6, 2), (75, .invokevirtual 329, 3), (78, .istore 8, 2), (80, .iload 7, 2), (82, .tableswitch (45) (0) (2) #[26, 29, 37], 26), (108, .iload 8, 2), (110, .ireturn, 1), (111, .aload_n 0, 1), (112, .getfield 46, 3), (115, .invokevirtual 333, 3), (118, .ireturn, 1), (119, .aload_n 0, 1), (120, .getfield 46, 3), (123, .invokevirtual 336, 3), (126, .ireturn, 1), (127, .aload_n 0, 1), (128, .getfield 46, 3), (131, .invokevirtual 339, 3), (134, .ireturn, 1)]
theorem k_X_friends : sv_tk m_X_friends.2.1 t_X_friends := by decide +kernel
theorem g_X_friends : sv_G m_X_friends 7 := ⟨by decide +kernel, sv_in 1191 (by decide +kernel) rfl, sv_in 90 (by decide +kernel) rfl, ⟨by decide, by decide⟩, by decide +kernel, by decide⟩
theorem in_X_friends : Cond.instanceMethod m_X_friends.1 ∈ sv_T := sv_in 1189 (by decide +kernel) rfl
theorem se_X_friends : Cond.selects m_X_friends.1.cls m_X_friends.1 m_X_friends.1 ∈ sv_T := sv_in 1190 (by decide +kernel) rfl
def F_X_friends (x1 : Int32) (x2 : Int32) (x3 : Int32) (x4 : Int32) (x5 : Int32) (x6 : Int32) (x7 : Int32) (s : sv_S) : Option (Int32 × sv_S) :=
  (F_X_isOwner x1 s).bind fun r1 =>
  if r1 = 0 then
    some ((-1 : Int32), s)
  else
  (F_X_isGood x2 s).bind fun r2 =>
  if r2 = 0 then
    some ((-1 : Int32), s)
  else
  (F_X_areStations x3 x4 s).bind fun r3 =>
  if r3 = 0 then
    some ((-1 : Int32), s)
  else
  if x7 < 0 then
    some ((-1 : Int32), s)
  else
  if x7 ≤ (3 : Int32) then
    (F_X_isDay x5 s).bind fun r4 =>
    if r4 = 0 then
      some ((-2 : Int32), s)
    else
    (F_X_isDay x6 s).bind fun r5 =>
    if r5 = 0 then
      some ((-2 : Int32), s)
    else
    if x5 ≤ x6 then
      (F_Tr_markFriends x1 x2 x3 x4 x5 x6 s).bind fun r6 =>
      if x7 = (0 : Int32) then
        some (r6.1, r6.2)
      else if x7 = (1 : Int32) then
        (F_Tr_leastPaid r6.2).bind fun r8 =>
        some (r8, r6.2)
      else if x7 = (2 : Int32) then
        (F_Tr_greatestPaid r6.2).bind fun r10 =>
        some (r10, r6.2)
      else 
      (F_Tr_rebate r6.2).bind fun r12 =>
      some (r12, r6.2)
    else
    some ((-2 : Int32), s)
  else
  some ((-1 : Int32), s)
theorem V_X_friends (E : sv_E) (d : Nat) (x1 : Int32) (x2 : Int32) (x3 : Int32) (x4 : Int32) (x5 : Int32) (x6 : Int32) (x7 : Int32) (s : sv_S) : sv_V E m_X_friends (d + 3) ss_i 0 (lv_args 0 [sv_r E 64, .int x1, .int x2, .int x3, .int x4, .int x5, .int x6, .int x7]) [] (ss_e s) (F_X_friends x1 x2 x3 x4 x5 x6 x7 s) := by
  show sv_V E m_X_friends (d + 3) ss_i 0 [(0, sv_r E 64), (1, .int x1), (2, .int x2), (3, .int x3), (4, .int x4), (5, .int x5), (6, .int x6), (7, .int x7)] [] (ss_e s) _
  unfold F_X_friends
  refine sv_iload_n (pc := 0) 1 (sv_d k_X_friends 0 rfl) rfl rfl ?_
  refine sv_callS (pc := 1) (ψ := (ss_pi s)) (As := [.int x1]) (rest := []) (sv_d k_X_friends 1 rfl) g_X_isOwner w558 st_X_isOwner rfl (Nat.le_of_ble_eq_true rfl) (V_X_isOwner E (d + 2) x1 s) (Nat.le_of_ble_eq_true rfl) rfl (fun r1 => ?_)
  show sv_V E _ _ _ 4 _ [.int r1] (ss_e s) _
  refine sv_if_eq (pc := 4) (tgt := 34) (sv_d k_X_friends 2 rfl) (by decide) ?_ ?_
  · refine sv_iconst (pc := 34) (v := (-1 : Int32)) (sv_d k_X_friends 15 rfl) (by decide) ?_
    exact sv_ret (pc := 35) (sv_d k_X_friends 16 rfl) ⟨_, rfl, rfl⟩ rfl
  · refine sv_iload_n (pc := 7) 2 (sv_d k_X_friends 3 rfl) rfl rfl ?_
    refine sv_callS (pc := 8) (ψ := (ss_pi s)) (As := [.int x2]) (rest := []) (sv_d k_X_friends 4 rfl) g_X_isGood w828 st_X_isGood rfl (Nat.le_of_ble_eq_true rfl) (V_X_isGood E (d + 2) x2 s) (Nat.le_of_ble_eq_true rfl) rfl (fun r2 => ?_)
    show sv_V E _ _ _ 11 _ [.int r2] (ss_e s) _
    refine sv_if_eq (pc := 11) (tgt := 34) (sv_d k_X_friends 5 rfl) (by decide) ?_ ?_
    · refine sv_iconst (pc := 34) (v := (-1 : Int32)) (sv_d k_X_friends 15 rfl) (by decide) ?_
      exact sv_ret (pc := 35) (sv_d k_X_friends 16 rfl) ⟨_, rfl, rfl⟩ rfl
    · refine sv_iload_n (pc := 14) 3 (sv_d k_X_friends 6 rfl) rfl rfl ?_
      refine sv_iload (pc := 15) 4 (sv_d k_X_friends 7 rfl) rfl ?_
      refine sv_callS (pc := 17) (ψ := (ss_pi s)) (As := [.int x3, .int x4]) (rest := []) (sv_d k_X_friends 8 rfl) g_X_areStations w561 st_X_areStations rfl (Nat.le_of_ble_eq_true rfl) (V_X_areStations E (d + 1) x3 x4 s) (Nat.le_of_ble_eq_true rfl) rfl (fun r3 => ?_)
      show sv_V E _ _ _ 20 _ [.int r3] (ss_e s) _
      refine sv_if_eq (pc := 20) (tgt := 34) (sv_d k_X_friends 9 rfl) (by decide) ?_ ?_
      · refine sv_iconst (pc := 34) (v := (-1 : Int32)) (sv_d k_X_friends 15 rfl) (by decide) ?_
        exact sv_ret (pc := 35) (sv_d k_X_friends 16 rfl) ⟨_, rfl, rfl⟩ rfl
      · refine sv_iload (pc := 23) 7 (sv_d k_X_friends 10 rfl) rfl ?_
        refine sv_if_lt (pc := 25) (tgt := 34) (sv_d k_X_friends 11 rfl) (by decide) ?_ ?_
        · refine sv_iconst (pc := 34) (v := (-1 : Int32)) (sv_d k_X_friends 15 rfl) (by decide) ?_
          exact sv_ret (pc := 35) (sv_d k_X_friends 16 rfl) ⟨_, rfl, rfl⟩ rfl
        · refine sv_iload (pc := 28) 7 (sv_d k_X_friends 12 rfl) rfl ?_
          refine sv_iconst (pc := 30) (v := (3 : Int32)) (sv_d k_X_friends 13 rfl) (by decide) ?_
          refine sv_icmp_le (pc := 31) (tgt := 36) (sv_d k_X_friends 14 rfl) (by decide) ?_ ?_
          · refine sv_iload (pc := 36) 5 (sv_d k_X_friends 17 rfl) rfl ?_
            refine sv_callS (pc := 38) (ψ := (ss_pi s)) (As := [.int x5]) (rest := []) (sv_d k_X_friends 18 rfl) g_X_isDay w621 st_X_isDay rfl (Nat.le_of_ble_eq_true rfl) (V_X_isDay E (d + 2) x5 s) (Nat.le_of_ble_eq_true rfl) rfl (fun r4 => ?_)
            show sv_V E _ _ _ 41 _ [.int r4] (ss_e s) _
            refine sv_if_eq (pc := 41) (tgt := 59) (sv_d k_X_friends 19 rfl) (by decide) ?_ ?_
            · refine sv_bipush (pc := 59) (v := (-2 : Int32)) (sv_d k_X_friends 26 rfl) (by decide) ?_
              exact sv_ret (pc := 61) (sv_d k_X_friends 27 rfl) ⟨_, rfl, rfl⟩ rfl
            · refine sv_iload (pc := 44) 6 (sv_d k_X_friends 20 rfl) rfl ?_
              refine sv_callS (pc := 46) (ψ := (ss_pi s)) (As := [.int x6]) (rest := []) (sv_d k_X_friends 21 rfl) g_X_isDay w621 st_X_isDay rfl (Nat.le_of_ble_eq_true rfl) (V_X_isDay E (d + 2) x6 s) (Nat.le_of_ble_eq_true rfl) rfl (fun r5 => ?_)
              show sv_V E _ _ _ 49 _ [.int r5] (ss_e s) _
              refine sv_if_eq (pc := 49) (tgt := 59) (sv_d k_X_friends 22 rfl) (by decide) ?_ ?_
              · refine sv_bipush (pc := 59) (v := (-2 : Int32)) (sv_d k_X_friends 26 rfl) (by decide) ?_
                exact sv_ret (pc := 61) (sv_d k_X_friends 27 rfl) ⟨_, rfl, rfl⟩ rfl
              · refine sv_iload (pc := 52) 5 (sv_d k_X_friends 23 rfl) rfl ?_
                refine sv_iload (pc := 54) 6 (sv_d k_X_friends 24 rfl) rfl ?_
                refine sv_icmp_le (pc := 56) (tgt := 62) (sv_d k_X_friends 25 rfl) (by decide) ?_ ?_
                · refine sv_aload_n (pc := 62) 0 (sv_d k_X_friends 28 rfl) rfl rfl ?_
                  refine sv_getf (pc := 63) 4 (sv_d k_X_friends 29 rfl) cf11 (by decide) w520 kd64 (ss_lt (by decide)) (lr_64_4 E _) ?_
                  refine sv_iload_n (pc := 66) 1 (sv_d k_X_friends 30 rfl) rfl rfl ?_
                  refine sv_iload_n (pc := 67) 2 (sv_d k_X_friends 31 rfl) rfl rfl ?_
                  refine sv_iload_n (pc := 68) 3 (sv_d k_X_friends 32 rfl) rfl rfl ?_
                  refine sv_iload (pc := 69) 4 (sv_d k_X_friends 33 rfl) rfl ?_
                  refine sv_iload (pc := 71) 5 (sv_d k_X_friends 34 rfl) rfl ?_
                  refine sv_iload (pc := 73) 6 (sv_d k_X_friends 35 rfl) rfl ?_
                  refine sv_callV (pc := 75) (ψ := ss_i) (As := [.int x1, .int x2, .int x3, .int x4, .int x5, .int x6]) (rest := []) (c := 151) (sv_d k_X_friends 36 rfl) g_Tr_markFriends w1192 in_Tr_markFriends se_Tr_markFriends cf9 kd151 (ss_lt (by decide)) rfl (Nat.le_of_ble_eq_true rfl) (V_Tr_markFriends E (d + 0) x1 x2 x3 x4 x5 x6 s) (Nat.le_of_ble_eq_true rfl) rfl (fun r6 => ?_)
                  show sv_V E _ _ _ 78 _ [.int r6.1] (ss_e r6.2) _
                  refine sv_istore (pc := 78) (lv' := [(8, .int r6.1), (0, sv_r E 64), (1, .int x1), (2, .int x2), (3, .int x3), (4, .int x4), (5, .int x5), (6, .int x6), (7, .int x7)]) (sv_d k_X_friends 37 rfl) (by decide) rfl ?_
                  refine sv_iload (pc := 80) 8 (sv_d k_X_friends 38 rfl) rfl ?_
                  refine ss_dec (fun hh7 => ?_) (fun hh7 => ?_)
                  · refine sv_tab (pc := 82) (tgt := 108) (sv_d k_X_friends 39 rfl) (0 : Int32) hh7 (by decide) (by decide) rfl (by decide) ?_
                    refine sv_iload (pc := 108) 0 (sv_d k_X_friends 40 rfl) rfl ?_
                    exact sv_ret (pc := 110) (sv_d k_X_friends 41 rfl) ⟨_, rfl, rfl⟩ rfl
                  · refine ss_dec (fun hh9 => ?_) (fun hh9 => ?_)
                    · refine sv_tab (pc := 82) (tgt := 111) (sv_d k_X_friends 39 rfl) (1 : Int32) hh9 (by decide) (by decide) rfl (by decide) ?_
                      refine sv_aload_n (pc := 111) 1 (sv_d k_X_friends 42 rfl) rfl rfl ?_
                      refine sv_getf (pc := 112) 4 (sv_d k_X_friends 43 rfl) cf11 (by decide) w520 kd64 (ss_lt (by decide)) (lr_64_4 E _) ?_
                      refine sv_callV (pc := 115) (ψ := (ss_pi r6.2)) (As := []) (rest := []) (c := 151) (sv_d k_X_friends 44 rfl) g_Tr_leastPaid w1196 in_Tr_leastPaid se_Tr_leastPaid cf9 kd151 (ss_lt (by decide)) rfl (Nat.le_of_ble_eq_true rfl) (V_Tr_leastPaid E (d + 0) r6.2) (Nat.le_of_ble_eq_true rfl) rfl (fun r8 => ?_)
                      show sv_V E _ _ _ 118 _ [.int r8] (ss_e r6.2) _
                      exact sv_ret (pc := 118) (sv_d k_X_friends 45 rfl) ⟨_, rfl, rfl⟩ rfl
                    · refine ss_dec (fun hh11 => ?_) (fun hh11 => ?_)
                      · refine sv_tab (pc := 82) (tgt := 119) (sv_d k_X_friends 39 rfl) (2 : Int32) hh11 (by decide) (by decide) rfl (by decide) ?_
                        refine sv_aload_n (pc := 119) 1 (sv_d k_X_friends 46 rfl) rfl rfl ?_
                        refine sv_getf (pc := 120) 4 (sv_d k_X_friends 47 rfl) cf11 (by decide) w520 kd64 (ss_lt (by decide)) (lr_64_4 E _) ?_
                        refine sv_callV (pc := 123) (ψ := (ss_pi r6.2)) (As := []) (rest := []) (c := 151) (sv_d k_X_friends 48 rfl) g_Tr_greatestPaid w1209 in_Tr_greatestPaid se_Tr_greatestPaid cf9 kd151 (ss_lt (by decide)) rfl (Nat.le_of_ble_eq_true rfl) (V_Tr_greatestPaid E (d + 1) r6.2) (Nat.le_of_ble_eq_true rfl) rfl (fun r10 => ?_)
                        show sv_V E _ _ _ 126 _ [.int r10] (ss_e r6.2) _
                        exact sv_ret (pc := 126) (sv_d k_X_friends 49 rfl) ⟨_, rfl, rfl⟩ rfl
                      · refine sv_tabD (pc := 82) (tgt := 127) (sv_d k_X_friends 39 rfl) (by rcases Int.lt_or_le (Int32.toInt x7) (0) with q | q; exact Or.inl q; have q := (sv_nlt (sv_nlt (sv_nlt q (lv_neT hh7 rfl)) (lv_neT hh9 rfl)) (lv_neT hh11 rfl)); exact Or.inr (by omega)) (by decide) ?_
                        refine sv_aload_n (pc := 127) 1 (sv_d k_X_friends 50 rfl) rfl rfl ?_
                        refine sv_getf (pc := 128) 4 (sv_d k_X_friends 51 rfl) cf11 (by decide) w520 kd64 (ss_lt (by decide)) (lr_64_4 E _) ?_
                        refine sv_callV (pc := 131) (ψ := (ss_pi r6.2)) (As := []) (rest := []) (c := 151) (sv_d k_X_friends 52 rfl) g_Tr_rebate w1210 in_Tr_rebate se_Tr_rebate cf9 kd151 (ss_lt (by decide)) rfl (Nat.le_of_ble_eq_true rfl) (V_Tr_rebate E (d + 0) r6.2) (Nat.le_of_ble_eq_true rfl) rfl (fun r12 => ?_)
                        show sv_V E _ _ _ 134 _ [.int r12] (ss_e r6.2) _
                        exact sv_ret (pc := 134) (sv_d k_X_friends 53 rfl) ⟨_, rfl, rfl⟩ rfl
                · refine sv_bipush (pc := 59) (v := (-2 : Int32)) (sv_d k_X_friends 26 rfl) (by decide) ?_
                  exact sv_ret (pc := 61) (sv_d k_X_friends 27 rfl) ⟨_, rfl, rfl⟩ rfl
          · refine sv_iconst (pc := 34) (v := (-1 : Int32)) (sv_d k_X_friends 15 rfl) (by decide) ?_
            exact sv_ret (pc := 35) (sv_d k_X_friends 16 rfl) ⟨_, rfl, rfl⟩ rfl
/-! X_trace -/
abbrev m_X_trace : sv_M := (yX11_trace, cX11_trace, 2, (some .int))
def t_X_trace : List (Nat × Instr × Nat) := [(0, .aload_n 0, 1), (1, .getfield 71, 3), (4, .iload_n 1, 1), (5, .invokevirtual 348, 3), (8, .ifCond .eq 15, 3), (11, .aload_n 0, 1), (12, .getfield 71, 3), (15, .getfield 351, 3), (18, .iload_n 1, 1), (19, .iaload, 1), (20, .goto 4, 3), (23, .iconst (-1), 1), (24, .ireturn, 1)]
theorem k_X_trace : sv_tk m_X_trace.2.1 t_X_trace := by decide +kernel
theorem g_X_trace : sv_G m_X_trace 1 := ⟨by decide +kernel, sv_in 1249 (by decide +kernel) rfl, sv_in 90 (by decide +kernel) rfl, ⟨by decide, by decide⟩, by decide +kernel, by decide⟩
theorem in_X_trace : Cond.instanceMethod m_X_trace.1 ∈ sv_T := sv_in 1247 (by decide +kernel) rfl
theorem se_X_trace : Cond.selects m_X_trace.1.cls m_X_trace.1 m_X_trace.1 ∈ sv_T := sv_in 1248 (by decide +kernel) rfl
def F_X_trace (x1 : Int32) (s : sv_S) : Option (Int32) :=
  (F_Ac_keeps x1 s).bind fun r1 =>
  if r1 = 0 then
    some (-1 : Int32)
  else
  if sv_ib x1 20 = true then
    some (s.1 176 x1.toNatClampNeg)
  else none
theorem V_X_trace (E : sv_E) (d : Nat) (x1 : Int32) (s : sv_S) : sv_V E m_X_trace (d + 1) (ss_pi s) 0 (lv_args 0 [sv_r E 64, .int x1]) [] (ss_e s) (F_X_trace x1 s) := by
  show sv_V E m_X_trace (d + 1) (ss_pi s) 0 [(0, sv_r E 64), (1, .int x1)] [] (ss_e s) _
  unfold F_X_trace
  refine sv_aload_n (pc := 0) 0 (sv_d k_X_trace 0 rfl) rfl rfl ?_
  refine sv_getf (pc := 1) 7 (sv_d k_X_trace 1 rfl) cf11 (by decide) w523 kd64 (ss_lt (by decide)) (lr_64_7 E _) ?_
  refine sv_iload_n (pc := 4) 1 (sv_d k_X_trace 2 rfl) rfl rfl ?_
  refine sv_callV (pc := 5) (ψ := (ss_pi s)) (As := [.int x1]) (rest := []) (c := 175) (sv_d k_X_trace 3 rfl) g_Ac_keeps w1250 in_Ac_keeps se_Ac_keeps cf0 kd175 (ss_lt (by decide)) rfl (Nat.le_of_ble_eq_true rfl) (V_Ac_keeps E (d + 0) x1 s) (Nat.le_of_ble_eq_true rfl) rfl (fun r1 => ?_)
  show sv_V E _ _ _ 8 _ [.int r1] (ss_e s) _
  refine sv_if_eq (pc := 8) (tgt := 23) (sv_d k_X_trace 4 rfl) (by decide) ?_ ?_
  · refine sv_iconst (pc := 23) (v := (-1 : Int32)) (sv_d k_X_trace 11 rfl) (by decide) ?_
    exact sv_ret (pc := 24) (sv_d k_X_trace 12 rfl) ⟨_, rfl, rfl⟩ rfl
  · refine sv_aload_n (pc := 11) 0 (sv_d k_X_trace 5 rfl) rfl rfl ?_
    refine sv_getf (pc := 12) 7 (sv_d k_X_trace 6 rfl) cf11 (by decide) w523 kd64 (ss_lt (by decide)) (lr_64_7 E _) ?_
    refine sv_getN (pc := 15) 0 (sv_d k_X_trace 7 rfl) cf0 (by decide) w473 kd175 (ss_lt (by decide)) (lr_175_0 E _) ?_
    refine sv_iload_n (pc := 18) 1 (sv_d k_X_trace 8 rfl) rfl rfl ?_
    refine ss_iald (pc := 19) (n := 20) (sv_d k_X_trace 9 rfl) kd176 (ss_lt (by decide)) rfl ?_
    refine sv_goto (pc := 20) (tgt := 24) (sv_d k_X_trace 10 rfl) (by decide) ?_
    exact sv_ret (pc := 24) (sv_d k_X_trace 12 rfl) ⟨_, rfl, rfl⟩ rfl
/-! X_taken -/
abbrev m_X_taken : sv_M := (yX11_taken, cX11_taken, 4, (some .int))
def t_X_taken : List (Nat × Instr × Nat) := [(0, .iload_n 2, 1), (1, .ifCond .lt 9, 3), (4, .iload_n 2, 1), (5, .bipush 7, 2), (7, .if_icmp .lt 6, 3), (10, .bipush (-2), 2), (12, .ireturn, 1), (13, .aload_n 0, 1), (14, .getfield 37, 3), (17, .iload_n 1, 1), (18, .invokevirtual 183, 3), (21, .ifCond .ne 6, 3), (24, .bipush (-11), 2), (26, .ireturn, 1), (27, .aload_n 0, 1), (28, .getfield 37, 3), (31, .iload_n 1, 1), (32, .invokevirtual 174, 3), (35, .invokevirtual 213, 3), (38, .istore_n 3, 1), (39, .iload_n 3, 1), (40, .iload_n 2, 1), (41, .invokestatic 354, 3), (44, .ifCond .eq 7, 3), (47, .iload_n 3, 1), (48, .goto 5, 3), (51, .bipush (-12), 2), (53, .ireturn, 1)]
theorem k_X_taken : sv_tk m_X_taken.2.1 t_X_taken := by decide +kernel
theorem g_X_taken : sv_G m_X_taken 2 := ⟨by decide +kernel, sv_in 1257 (by decide +kernel) rfl, sv_in 90 (by decide +kernel) rfl, ⟨by decide, by decide⟩, by decide +kernel, by decide⟩
theorem in_X_taken : Cond.instanceMethod m_X_taken.1 ∈ sv_T := sv_in 1255 (by decide +kernel) rfl
theorem se_X_taken : Cond.selects m_X_taken.1.cls m_X_taken.1 m_X_taken.1 ∈ sv_T := sv_in 1256 (by decide +kernel) rfl
def F_X_taken (x1 : Int32) (x2 : Int32) (s : sv_S) : Option (Int32) :=
  if x2 < 0 then
    some (-2 : Int32)
  else
  if x2 < (7 : Int32) then
    (F_Rs_has x1 s).bind fun r1 =>
    if r1 = 0 then
      some (-11 : Int32)
    else
    (F_Rs_row x1 s).bind fun r2 =>
    if ss_ok2 s r2 5 = true then
      (F_Ra_kind r2 s).bind fun r4 =>
      (F_Ac_isUnder r4 x2 s).bind fun r5 =>
      if r5 = 0 then
        some (-12 : Int32)
      else
      some r4
    else none
  else
  some (-2 : Int32)
theorem V_X_taken (E : sv_E) (d : Nat) (x1 : Int32) (x2 : Int32) (s : sv_S) : sv_V E m_X_taken (d + 1) (ss_pi s) 0 (lv_args 0 [sv_r E 64, .int x1, .int x2]) [] (ss_e s) (F_X_taken x1 x2 s) := by
  show sv_V E m_X_taken (d + 1) (ss_pi s) 0 [(0, sv_r E 64), (1, .int x1), (2, .int x2)] [] (ss_e s) _
  unfold F_X_taken
  refine sv_iload_n (pc := 0) 2 (sv_d k_X_taken 0 rfl) rfl rfl ?_
  refine sv_if_lt (pc := 1) (tgt := 10) (sv_d k_X_taken 1 rfl) (by decide) ?_ ?_
  · refine sv_bipush (pc := 10) (v := (-2 : Int32)) (sv_d k_X_taken 5 rfl) (by decide) ?_
    exact sv_ret (pc := 12) (sv_d k_X_taken 6 rfl) ⟨_, rfl, rfl⟩ rfl
  · refine sv_iload_n (pc := 4) 2 (sv_d k_X_taken 2 rfl) rfl rfl ?_
    refine sv_bipush (pc := 5) (v := (7 : Int32)) (sv_d k_X_taken 3 rfl) (by decide) ?_
    refine sv_icmp_lt (pc := 7) (tgt := 13) (sv_d k_X_taken 4 rfl) (by decide) ?_ ?_
    · refine sv_aload_n (pc := 13) 0 (sv_d k_X_taken 7 rfl) rfl rfl ?_
      refine sv_getf (pc := 14) 3 (sv_d k_X_taken 8 rfl) cf11 (by decide) w519 kd64 (ss_lt (by decide)) (lr_64_3 E _) ?_
      refine sv_iload_n (pc := 17) 1 (sv_d k_X_taken 9 rfl) rfl rfl ?_
      refine sv_callV (pc := 18) (ψ := (ss_pi s)) (As := [.int x1]) (rest := []) (c := 88) (sv_d k_X_taken 10 rfl) g_Rs_has w842 in_Rs_has se_Rs_has cf6 kd88 (ss_lt (by decide)) rfl (Nat.le_of_ble_eq_true rfl) (V_Rs_has E (d + 0) x1 s) (Nat.le_of_ble_eq_true rfl) rfl (fun r1 => ?_)
      show sv_V E _ _ _ 21 _ [.int r1] (ss_e s) _
      refine sv_if_ne (pc := 21) (tgt := 27) (sv_d k_X_taken 11 rfl) (by decide) ?_ ?_
      · refine sv_aload_n (pc := 27) 0 (sv_d k_X_taken 14 rfl) rfl rfl ?_
        refine sv_getf (pc := 28) 3 (sv_d k_X_taken 15 rfl) cf11 (by decide) w519 kd64 (ss_lt (by decide)) (lr_64_3 E _) ?_
        refine sv_iload_n (pc := 31) 1 (sv_d k_X_taken 16 rfl) rfl rfl ?_
        refine sv_callV (pc := 32) (ψ := (ss_pq E s)) (As := [.int x1]) (rest := []) (c := 88) (sv_d k_X_taken 17 rfl) g_Rs_row w834 in_Rs_row se_Rs_row cf6 kd88 (ss_lt (by decide)) rfl (Nat.le_of_ble_eq_true rfl) (V_Rs_row E (d + 0) x1 s) (Nat.le_of_ble_eq_true rfl) rfl (fun r2 => ?_)
        show sv_V E _ _ _ 35 _ [sv_r E r2] (ss_e s) _
        refine ss_gd2 (fun h_g3 o_g3 l_g3 => ?_)
        refine sv_callV (pc := 35) (ψ := (ss_pi s)) (As := []) (rest := []) (c := r2) (sv_d k_X_taken 18 rfl) g_Ra_kind w863 in_Ra_kind se_Ra_kind cf5 h_g3 l_g3 rfl (Nat.le_of_ble_eq_true rfl) (V_Ra_kind E (d + 0) r2 s h_g3 o_g3 l_g3) (Nat.le_of_ble_eq_true rfl) rfl (fun r4 => ?_)
        show sv_V E _ _ _ 38 _ [.int r4] (ss_e s) _
        refine sv_istore_n (pc := 38) (lv' := [(3, .int r4), (0, sv_r E 64), (1, .int x1), (2, .int x2)]) (sv_d k_X_taken 19 rfl) rfl (by decide) rfl ?_
        refine sv_iload_n (pc := 39) 0 (sv_d k_X_taken 20 rfl) rfl rfl ?_
        refine sv_iload_n (pc := 40) 3 (sv_d k_X_taken 21 rfl) rfl rfl ?_
        refine sv_callS (pc := 41) (ψ := (ss_pi s)) (As := [.int r4, .int x2]) (rest := []) (sv_d k_X_taken 22 rfl) g_Ac_isUnder w1258 st_Ac_isUnder rfl (Nat.le_of_ble_eq_true rfl) (V_Ac_isUnder E (d + 0) r4 x2 s) (Nat.le_of_ble_eq_true rfl) rfl (fun r5 => ?_)
        show sv_V E _ _ _ 44 _ [.int r5] (ss_e s) _
        refine sv_if_eq (pc := 44) (tgt := 51) (sv_d k_X_taken 23 rfl) (by decide) ?_ ?_
        · refine sv_bipush (pc := 51) (v := (-12 : Int32)) (sv_d k_X_taken 26 rfl) (by decide) ?_
          exact sv_ret (pc := 53) (sv_d k_X_taken 27 rfl) ⟨_, rfl, rfl⟩ rfl
        · refine sv_iload_n (pc := 47) 0 (sv_d k_X_taken 24 rfl) rfl rfl ?_
          refine sv_goto (pc := 48) (tgt := 53) (sv_d k_X_taken 25 rfl) (by decide) ?_
          exact sv_ret (pc := 53) (sv_d k_X_taken 27 rfl) ⟨_, rfl, rfl⟩ rfl
      · refine sv_bipush (pc := 24) (v := (-11 : Int32)) (sv_d k_X_taken 12 rfl) (by decide) ?_
        exact sv_ret (pc := 26) (sv_d k_X_taken 13 rfl) ⟨_, rfl, rfl⟩ rfl
    · refine sv_bipush (pc := 10) (v := (-2 : Int32)) (sv_d k_X_taken 5 rfl) (by decide) ?_
      exact sv_ret (pc := 12) (sv_d k_X_taken 6 rfl) ⟨_, rfl, rfl⟩ rfl
/-! X_count -/
abbrev m_X_count : sv_M := (yX11_count, cX11_count, 2, (some .int))
def t_X_count : List (Nat × Instr × Nat) := [(0, .iload_n 1, 1), (1, .tableswitch (120) (0) (8) #[51, 56, 64, 72, 80, 88, 96, 104, 112], 51), (52, .aload_n 0, 1), (53, .getfield 86, 3), (56, .ireturn, 1), (57, .aload_n 0, 1), (58, .getfield 12, 3), (61, .getfield 357, 3), (64, .ireturn, 1), (65, .aload_n 0, 1), (66, .getfield 28, 3), (69, .getfield 360, 3), (72, .ireturn, 1), (73, .aload_n 0, 1), (74, .getfield 37, 3), (77, .getfield 361, 3), (80, .ireturn, 1), (81, .aload_n 0, 1), (82, .getfield 46, 3), (85, .getfield 362, 3), (88, .ireturn, 1), (89, .aload_n 0, 1), (90, .getfield 64, 3), (93, .getfield 363, 3), (96, .ireturn, 1), (97, .aload_n 0, 1), (98, .getfield 64, 3), (101, .getfield 323, 3), (104, .ireturn, 1), (105, .aload_n 0, 1), (106, .getfield 21, 3), (109, .getfield 131, 3), (112, .ireturn, 1), (113, .aload_n 0, 1), (114, .getfield 71, 3), (117, .getfield 364, 3), (120, .ireturn, 1), (121, .bipush (-2), 2), (123, .ireturn, 1)]
theorem k_X_count : sv_tk m_X_count.2.1 t_X_count := by decide +kernel
theorem g_X_count : sv_G m_X_count 1 := ⟨by decide +kernel, sv_in 1264 (by decide +kernel) rfl, sv_in 90 (by decide +kernel) rfl, ⟨by decide, by decide⟩, by decide +kernel, by decide⟩
theorem in_X_count : Cond.instanceMethod m_X_count.1 ∈ sv_T := sv_in 1262 (by decide +kernel) rfl
theorem se_X_count : Cond.selects m_X_count.1.cls m_X_count.1 m_X_count.1 ∈ sv_T := sv_in 1263 (by decide +kernel) rfl
def F_X_count (x1 : Int32) (s : sv_S) : Option (Int32) :=
  if x1 = (0 : Int32) then
    some (s.1 64 9)
  else if x1 = (1 : Int32) then
    some (s.1 65 4)
  else if x1 = (2 : Int32) then
    some (s.1 81 4)
  else if x1 = (3 : Int32) then
    some (s.1 88 4)
  else if x1 = (4 : Int32) then
    some (s.1 151 10)
  else if x1 = (5 : Int32) then
    some (s.1 163 13)
  else if x1 = (6 : Int32) then
    some (s.1 163 14)
  else if x1 = (7 : Int32) then
    some (s.1 77 3)
  else if x1 = (8 : Int32) then
    some (s.1 175 1)
  else 
  some (-2 : Int32)
theorem V_X_count (E : sv_E) (d : Nat) (x1 : Int32) (s : sv_S) : sv_V E m_X_count (d + 0) (ss_pi s) 0 (lv_args 0 [sv_r E 64, .int x1]) [] (ss_e s) (F_X_count x1 s) := by
  show sv_V E m_X_count (d + 0) (ss_pi s) 0 [(0, sv_r E 64), (1, .int x1)] [] (ss_e s) _
  unfold F_X_count
  refine sv_iload_n (pc := 0) 1 (sv_d k_X_count 0 rfl) rfl rfl ?_
  refine ss_dec (fun hh1 => ?_) (fun hh1 => ?_)
  · refine sv_tab (pc := 1) (tgt := 52) (sv_d k_X_count 1 rfl) (0 : Int32) hh1 (by decide) (by decide) rfl (by decide) ?_
    refine sv_aload_n (pc := 52) 0 (sv_d k_X_count 2 rfl) rfl rfl ?_
    refine sv_getf (pc := 53) 9 (sv_d k_X_count 3 rfl) cf11 (by decide) w525 kd64 (ss_lt (by decide)) rfl ?_
    exact sv_ret (pc := 56) (sv_d k_X_count 4 rfl) ⟨_, rfl, rfl⟩ rfl
  · refine ss_dec (fun hh2 => ?_) (fun hh2 => ?_)
    · refine sv_tab (pc := 1) (tgt := 57) (sv_d k_X_count 1 rfl) (1 : Int32) hh2 (by decide) (by decide) rfl (by decide) ?_
      refine sv_aload_n (pc := 57) 0 (sv_d k_X_count 5 rfl) rfl rfl ?_
      refine sv_getf (pc := 58) 0 (sv_d k_X_count 6 rfl) cf11 (by decide) w516 kd64 (ss_lt (by decide)) (lr_64_0 E _) ?_
      refine sv_getN (pc := 61) 4 (sv_d k_X_count 7 rfl) cf7 (by decide) w136 kd65 (ss_lt (by decide)) rfl ?_
      exact sv_ret (pc := 64) (sv_d k_X_count 8 rfl) ⟨_, rfl, rfl⟩ rfl
    · refine ss_dec (fun hh3 => ?_) (fun hh3 => ?_)
      · refine sv_tab (pc := 1) (tgt := 65) (sv_d k_X_count 1 rfl) (2 : Int32) hh3 (by decide) (by decide) rfl (by decide) ?_
        refine sv_aload_n (pc := 65) 0 (sv_d k_X_count 9 rfl) rfl rfl ?_
        refine sv_getf (pc := 66) 2 (sv_d k_X_count 10 rfl) cf11 (by decide) w518 kd64 (ss_lt (by decide)) (lr_64_2 E _) ?_
        refine sv_getN (pc := 69) 4 (sv_d k_X_count 11 rfl) cf4 (by decide) w234 kd81 (ss_lt (by decide)) rfl ?_
        exact sv_ret (pc := 72) (sv_d k_X_count 12 rfl) ⟨_, rfl, rfl⟩ rfl
      · refine ss_dec (fun hh4 => ?_) (fun hh4 => ?_)
        · refine sv_tab (pc := 1) (tgt := 73) (sv_d k_X_count 1 rfl) (3 : Int32) hh4 (by decide) (by decide) rfl (by decide) ?_
          refine sv_aload_n (pc := 73) 0 (sv_d k_X_count 13 rfl) rfl rfl ?_
          refine sv_getf (pc := 74) 3 (sv_d k_X_count 14 rfl) cf11 (by decide) w519 kd64 (ss_lt (by decide)) (lr_64_3 E _) ?_
          refine sv_getN (pc := 77) 4 (sv_d k_X_count 15 rfl) cf6 (by decide) w333 kd88 (ss_lt (by decide)) rfl ?_
          exact sv_ret (pc := 80) (sv_d k_X_count 16 rfl) ⟨_, rfl, rfl⟩ rfl
        · refine ss_dec (fun hh5 => ?_) (fun hh5 => ?_)
          · refine sv_tab (pc := 1) (tgt := 81) (sv_d k_X_count 1 rfl) (4 : Int32) hh5 (by decide) (by decide) rfl (by decide) ?_
            refine sv_aload_n (pc := 81) 0 (sv_d k_X_count 17 rfl) rfl rfl ?_
            refine sv_getf (pc := 82) 4 (sv_d k_X_count 18 rfl) cf11 (by decide) w520 kd64 (ss_lt (by decide)) (lr_64_4 E _) ?_
            refine sv_getN (pc := 85) 10 (sv_d k_X_count 19 rfl) cf9 (by decide) w362 kd151 (ss_lt (by decide)) rfl ?_
            exact sv_ret (pc := 88) (sv_d k_X_count 20 rfl) ⟨_, rfl, rfl⟩ rfl
          · refine ss_dec (fun hh6 => ?_) (fun hh6 => ?_)
            · refine sv_tab (pc := 1) (tgt := 89) (sv_d k_X_count 1 rfl) (5 : Int32) hh6 (by decide) (by decide) rfl (by decide) ?_
              refine sv_aload_n (pc := 89) 0 (sv_d k_X_count 21 rfl) rfl rfl ?_
              refine sv_getf (pc := 90) 6 (sv_d k_X_count 22 rfl) cf11 (by decide) w522 kd64 (ss_lt (by decide)) (lr_64_6 E _) ?_
              refine sv_getN (pc := 93) 13 (sv_d k_X_count 23 rfl) cf10 (by decide) w432 kd163 (ss_lt (by decide)) rfl ?_
              exact sv_ret (pc := 96) (sv_d k_X_count 24 rfl) ⟨_, rfl, rfl⟩ rfl
            · refine ss_dec (fun hh7 => ?_) (fun hh7 => ?_)
              · refine sv_tab (pc := 1) (tgt := 97) (sv_d k_X_count 1 rfl) (6 : Int32) hh7 (by decide) (by decide) rfl (by decide) ?_
                refine sv_aload_n (pc := 97) 0 (sv_d k_X_count 25 rfl) rfl rfl ?_
                refine sv_getf (pc := 98) 6 (sv_d k_X_count 26 rfl) cf11 (by decide) w522 kd64 (ss_lt (by decide)) (lr_64_6 E _) ?_
                refine sv_getN (pc := 101) 14 (sv_d k_X_count 27 rfl) cf10 (by decide) w434 kd163 (ss_lt (by decide)) rfl ?_
                exact sv_ret (pc := 104) (sv_d k_X_count 28 rfl) ⟨_, rfl, rfl⟩ rfl
              · refine ss_dec (fun hh8 => ?_) (fun hh8 => ?_)
                · refine sv_tab (pc := 1) (tgt := 105) (sv_d k_X_count 1 rfl) (7 : Int32) hh8 (by decide) (by decide) rfl (by decide) ?_
                  refine sv_aload_n (pc := 105) 0 (sv_d k_X_count 29 rfl) rfl rfl ?_
                  refine sv_getf (pc := 106) 1 (sv_d k_X_count 30 rfl) cf11 (by decide) w517 kd64 (ss_lt (by decide)) (lr_64_1 E _) ?_
                  refine sv_getN (pc := 109) 3 (sv_d k_X_count 31 rfl) cf3 (by decide) w160 kd77 (ss_lt (by decide)) rfl ?_
                  exact sv_ret (pc := 112) (sv_d k_X_count 32 rfl) ⟨_, rfl, rfl⟩ rfl
                · refine ss_dec (fun hh9 => ?_) (fun hh9 => ?_)
                  · refine sv_tab (pc := 1) (tgt := 113) (sv_d k_X_count 1 rfl) (8 : Int32) hh9 (by decide) (by decide) rfl (by decide) ?_
                    refine sv_aload_n (pc := 113) 0 (sv_d k_X_count 33 rfl) rfl rfl ?_
                    refine sv_getf (pc := 114) 7 (sv_d k_X_count 34 rfl) cf11 (by decide) w523 kd64 (ss_lt (by decide)) (lr_64_7 E _) ?_
                    refine sv_getN (pc := 117) 1 (sv_d k_X_count 35 rfl) cf0 (by decide) w475 kd175 (ss_lt (by decide)) rfl ?_
                    exact sv_ret (pc := 120) (sv_d k_X_count 36 rfl) ⟨_, rfl, rfl⟩ rfl
                  · refine sv_tabD (pc := 1) (tgt := 121) (sv_d k_X_count 1 rfl) (by rcases Int.lt_or_le (Int32.toInt x1) (0) with q | q; exact Or.inl q; have q := (sv_nlt (sv_nlt (sv_nlt (sv_nlt (sv_nlt (sv_nlt (sv_nlt (sv_nlt (sv_nlt q (lv_neT hh1 rfl)) (lv_neT hh2 rfl)) (lv_neT hh3 rfl)) (lv_neT hh4 rfl)) (lv_neT hh5 rfl)) (lv_neT hh6 rfl)) (lv_neT hh7 rfl)) (lv_neT hh8 rfl)) (lv_neT hh9 rfl)); exact Or.inr (by omega)) (by decide) ?_
                    refine sv_bipush (pc := 121) (v := (-2 : Int32)) (sv_d k_X_count 37 rfl) (by decide) ?_
                    exact sv_ret (pc := 123) (sv_d k_X_count 38 rfl) ⟨_, rfl, rfl⟩ rfl
/-! X_tape -/
abbrev m_X_tape : sv_M := (yX11_tape, cX11_tape, 4, (some .int))
def t_X_tape : List (Nat × Instr × Nat) := [(0, .iload_n 1, 1), (1, .invokestatic 247, 3), (4, .ifCond .ne 5, 3), (7, .iconst (-1), 1), (8, .ireturn, 1), (9, .iload_n 2, 1), (10, .iconst (-1), 1), (11, .if_icmp .ne 15, 3), (14, .aload_n 0, 1), (15, .getfield 78, 3), (18, .iload_n 1, 1), (19, .iconst (-1), 1), (20, .iconst 0, 1), (21, .invokevirtual 367, 3), (24, .iconst 1, 1), (25, .ireturn, 1), (26, .iload_n 2, 1), (27, .ifCond .lt 14, 3), (30, .iload_n 2, 1), (31, .iconst 4, 1), (32, .if_icmp .ge 9, 3), (35, .iload_n 3, 1), (36, .bipush 80, 2), (38, .if_icmp .le 6, 3), (41, .bipush (-2), 2), (43, .ireturn, 1), (44, .iload_n 3, 1), (45, .ifCond .ge 6, 3), (48, .bipush (-14), 2), (50, .ireturn, 1), (51, .aload_n 0, 1), (52, .getfield 78, 3), (55, .iload_n 1, 1), (56, .iload_n 2, 1), (57, .iload_n 3, 1), (58, .invokevirtual 367, 3), (61, .iconst 1, 1), (62, .ireturn, 1)]
theorem k_X_tape : sv_tk m_X_tape.2.1 t_X_tape := by decide +kernel
theorem g_X_tape : sv_G m_X_tape 3 := ⟨by decide +kernel, sv_in 1268 (by decide +kernel) rfl, sv_in 90 (by decide +kernel) rfl, ⟨by decide, by decide⟩, by decide +kernel, by decide⟩
theorem in_X_tape : Cond.instanceMethod m_X_tape.1 ∈ sv_T := sv_in 1266 (by decide +kernel) rfl
theorem se_X_tape : Cond.selects m_X_tape.1.cls m_X_tape.1 m_X_tape.1 ∈ sv_T := sv_in 1267 (by decide +kernel) rfl
def F_X_tape (x1 : Int32) (x2 : Int32) (x3 : Int32) (s : sv_S) : Option (Int32 × sv_S) :=
  (F_X_isTape x1 s).bind fun r1 =>
  if r1 = 0 then
    some ((-1 : Int32), s)
  else
  if x2 = (-1 : Int32) then
    (F_Ta_lay x1 (-1 : Int32) (0 : Int32) s).bind fun r3 =>
    some ((1 : Int32), r3)
  else
  if x2 < 0 then
    some ((-2 : Int32), s)
  else
  if (4 : Int32) ≤ x2 then
    some ((-2 : Int32), s)
  else
  if x3 ≤ (80 : Int32) then
    if 0 ≤ x3 then
      (F_Ta_lay x1 x2 x3 s).bind fun r2 =>
      some ((1 : Int32), r2)
    else
    some ((-14 : Int32), s)
  else
  some ((-2 : Int32), s)
theorem V_X_tape (E : sv_E) (d : Nat) (x1 : Int32) (x2 : Int32) (x3 : Int32) (s : sv_S) : sv_V E m_X_tape (d + 2) ss_i 0 (lv_args 0 [sv_r E 64, .int x1, .int x2, .int x3]) [] (ss_e s) (F_X_tape x1 x2 x3 s) := by
  show sv_V E m_X_tape (d + 2) ss_i 0 [(0, sv_r E 64), (1, .int x1), (2, .int x2), (3, .int x3)] [] (ss_e s) _
  unfold F_X_tape
  refine sv_iload_n (pc := 0) 1 (sv_d k_X_tape 0 rfl) rfl rfl ?_
  refine sv_callS (pc := 1) (ψ := (ss_pi s)) (As := [.int x1]) (rest := []) (sv_d k_X_tape 1 rfl) g_X_isTape w952 st_X_isTape rfl (Nat.le_of_ble_eq_true rfl) (V_X_isTape E (d + 1) x1 s) (Nat.le_of_ble_eq_true rfl) rfl (fun r1 => ?_)
  show sv_V E _ _ _ 4 _ [.int r1] (ss_e s) _
  refine sv_if_ne (pc := 4) (tgt := 9) (sv_d k_X_tape 2 rfl) (by decide) ?_ ?_
  · refine sv_iload_n (pc := 9) 2 (sv_d k_X_tape 5 rfl) rfl rfl ?_
    refine sv_iconst (pc := 10) (v := (-1 : Int32)) (sv_d k_X_tape 6 rfl) (by decide) ?_
    refine sv_icmp_ne (pc := 11) (tgt := 26) (sv_d k_X_tape 7 rfl) (by decide) ?_ ?_
    · refine sv_iload_n (pc := 26) 2 (sv_d k_X_tape 16 rfl) rfl rfl ?_
      refine sv_if_lt (pc := 27) (tgt := 41) (sv_d k_X_tape 17 rfl) (by decide) ?_ ?_
      · refine sv_bipush (pc := 41) (v := (-2 : Int32)) (sv_d k_X_tape 24 rfl) (by decide) ?_
        exact sv_ret (pc := 43) (sv_d k_X_tape 25 rfl) ⟨_, rfl, rfl⟩ rfl
      · refine sv_iload_n (pc := 30) 2 (sv_d k_X_tape 18 rfl) rfl rfl ?_
        refine sv_iconst (pc := 31) (v := (4 : Int32)) (sv_d k_X_tape 19 rfl) (by decide) ?_
        refine sv_icmp_ge (pc := 32) (tgt := 41) (sv_d k_X_tape 20 rfl) (by decide) ?_ ?_
        · refine sv_bipush (pc := 41) (v := (-2 : Int32)) (sv_d k_X_tape 24 rfl) (by decide) ?_
          exact sv_ret (pc := 43) (sv_d k_X_tape 25 rfl) ⟨_, rfl, rfl⟩ rfl
        · refine sv_iload_n (pc := 35) 3 (sv_d k_X_tape 21 rfl) rfl rfl ?_
          refine sv_bipush (pc := 36) (v := (80 : Int32)) (sv_d k_X_tape 22 rfl) (by decide) ?_
          refine sv_icmp_le (pc := 38) (tgt := 44) (sv_d k_X_tape 23 rfl) (by decide) ?_ ?_
          · refine sv_iload_n (pc := 44) 3 (sv_d k_X_tape 26 rfl) rfl rfl ?_
            refine sv_if_ge (pc := 45) (tgt := 51) (sv_d k_X_tape 27 rfl) (by decide) ?_ ?_
            · refine sv_aload_n (pc := 51) 0 (sv_d k_X_tape 30 rfl) rfl rfl ?_
              refine sv_getf (pc := 52) 8 (sv_d k_X_tape 31 rfl) cf11 (by decide) w524 kd64 (ss_lt (by decide)) (lr_64_8 E _) ?_
              refine sv_iload_n (pc := 55) 1 (sv_d k_X_tape 32 rfl) rfl rfl ?_
              refine sv_iload_n (pc := 56) 2 (sv_d k_X_tape 33 rfl) rfl rfl ?_
              refine sv_iload_n (pc := 57) 3 (sv_d k_X_tape 34 rfl) rfl rfl ?_
              refine sv_callV (pc := 58) (ψ := ss_v) (As := [.int x1, .int x2, .int x3]) (rest := []) (c := 177) (sv_d k_X_tape 35 rfl) g_Ta_lay w1269 in_Ta_lay se_Ta_lay cf8 kd177 (ss_lt (by decide)) rfl (Nat.le_of_ble_eq_true rfl) (V_Ta_lay E (d + 0) x1 x2 x3 s) (Nat.le_of_ble_eq_true rfl) rfl (fun r2 => ?_)
              show sv_V E _ _ _ 61 _ [] (ss_e r2) _
              refine sv_iconst (pc := 61) (v := (1 : Int32)) (sv_d k_X_tape 36 rfl) (by decide) ?_
              exact sv_ret (pc := 62) (sv_d k_X_tape 37 rfl) ⟨_, rfl, rfl⟩ rfl
            · refine sv_bipush (pc := 48) (v := (-14 : Int32)) (sv_d k_X_tape 28 rfl) (by decide) ?_
              exact sv_ret (pc := 50) (sv_d k_X_tape 29 rfl) ⟨_, rfl, rfl⟩ rfl
          · refine sv_bipush (pc := 41) (v := (-2 : Int32)) (sv_d k_X_tape 24 rfl) (by decide) ?_
            exact sv_ret (pc := 43) (sv_d k_X_tape 25 rfl) ⟨_, rfl, rfl⟩ rfl
    · refine sv_aload_n (pc := 14) 0 (sv_d k_X_tape 8 rfl) rfl rfl ?_
      refine sv_getf (pc := 15) 8 (sv_d k_X_tape 9 rfl) cf11 (by decide) w524 kd64 (ss_lt (by decide)) (lr_64_8 E _) ?_
      refine sv_iload_n (pc := 18) 1 (sv_d k_X_tape 10 rfl) rfl rfl ?_
      refine sv_iconst (pc := 19) (v := (-1 : Int32)) (sv_d k_X_tape 11 rfl) (by decide) ?_
      refine sv_iconst (pc := 20) (v := (0 : Int32)) (sv_d k_X_tape 12 rfl) (by decide) ?_
      refine sv_callV (pc := 21) (ψ := ss_v) (As := [.int x1, .int (-1 : Int32), .int (0 : Int32)]) (rest := []) (c := 177) (sv_d k_X_tape 13 rfl) g_Ta_lay w1269 in_Ta_lay se_Ta_lay cf8 kd177 (ss_lt (by decide)) rfl (Nat.le_of_ble_eq_true rfl) (V_Ta_lay E (d + 0) x1 (-1 : Int32) (0 : Int32) s) (Nat.le_of_ble_eq_true rfl) rfl (fun r3 => ?_)
      show sv_V E _ _ _ 24 _ [] (ss_e r3) _
      refine sv_iconst (pc := 24) (v := (1 : Int32)) (sv_d k_X_tape 14 rfl) (by decide) ?_
      exact sv_ret (pc := 25) (sv_d k_X_tape 15 rfl) ⟨_, rfl, rfl⟩ rfl
  · refine sv_iconst (pc := 7) (v := (-1 : Int32)) (sv_d k_X_tape 3 rfl) (by decide) ?_
    exact sv_ret (pc := 8) (sv_d k_X_tape 4 rfl) ⟨_, rfl, rfl⟩ rfl
/-! X_item -/
abbrev m_X_item : sv_M := (yX11_item, cX11_item, 5, (some .int))
def t_X_item : List (Nat × Instr × Nat) := [(0, .iload_n 1, 1), (1, .invokestatic 247, 3), (4, .ifCond .ne 5, 3), (7, .iconst (-1), 1), (8, .ireturn, 1), (9, .aload_n 0, 1), (10, .getfield 78, 3), (13, .getfield 250, 3), (16, .iload_n 1, 1), (17, .iaload, 1), (18, .iconst (-1), 1), (19, .if_icmp .ne 6, 3), (22, .bipush (-11), 2), (24, .ireturn, 1), (25, .aload_n 0, 1), (26, .getfield 78, 3), (29, .iload_n 1, 1), (30, .iload_n 2, 1), (31, .iconst 1, 1), (32, .invokevirtual 370, 3), (35, .ifCond .ne 6, 3), (38, .bipush (-13), 2), (40, .ireturn, 1), (41, .aload_n 0, 1), (42, .getfield 78, 3), (45, .getfield 374, 3), (48, .iload_n 1, 1), (49, .aaload, 1), (50, .iload_n 2, 1), (51, .aload_n 0, 1), (52, .getfield 78, 3), (55, .getfield 250, 3), (58, .iload_n 1, 1), (59, .iaload, 1), (60, .lload_n 3, 1), (61, .invokestatic 378, 3), (64, .lastore, 1), (65, .iconst 1, 1), (66, .ireturn, 1)]
theorem k_X_item : sv_tk m_X_item.2.1 t_X_item := by decide +kernel
theorem g_X_item : sv_G m_X_item 3 := ⟨by decide +kernel, sv_in 1279 (by decide +kernel) rfl, sv_in 90 (by decide +kernel) rfl, ⟨by decide, by decide⟩, by decide +kernel, by decide⟩
theorem in_X_item : Cond.instanceMethod m_X_item.1 ∈ sv_T := sv_in 1277 (by decide +kernel) rfl
theorem se_X_item : Cond.selects m_X_item.1.cls m_X_item.1 m_X_item.1 ∈ sv_T := sv_in 1278 (by decide +kernel) rfl
def F_X_item (x1 : Int32) (x2 : Int32) (y3 : Int64) (s : sv_S) : Option (Int32 × sv_S) :=
  (F_X_isTape x1 s).bind fun r1 =>
  if r1 = 0 then
    some ((-1 : Int32), s)
  else
  if sv_ib x1 6 = true then
    if (s.1 178 x1.toNatClampNeg) = (-1 : Int32) then
      some ((-11 : Int32), s)
    else
    (F_Ta_reaches x1 x2 (1 : Int32) s).bind fun r2 =>
    if r2 = 0 then
      some ((-13 : Int32), s)
    else
    if sv_ib x1 6 = true then
      if sv_ib x1 6 = true then
        (F_Ta_cut (s.1 178 x1.toNatClampNeg) y3 s).bind fun r4 =>
        if sv_ib x2 (ss_N s.2.2.2.1 (181 + x1.toNatClampNeg)) = true then
          ss_let (ss_setL s (181 + x1.toNatClampNeg) x2.toNatClampNeg r4) fun s5 =>
          some ((1 : Int32), s5)
        else none
      else none
    else none
  else none
theorem V_X_item (E : sv_E) (d : Nat) (x1 : Int32) (x2 : Int32) (y3 : Int64) (s : sv_S) : sv_V E m_X_item (d + 1) ss_i 0 (lv_args 0 [sv_r E 64, .int x1, .int x2, .long y3]) [] (ss_e s) (F_X_item x1 x2 y3 s) := by
  show sv_V E m_X_item (d + 1) ss_i 0 [(0, sv_r E 64), (1, .int x1), (2, .int x2), (3, .long y3)] [] (ss_e s) _
  unfold F_X_item
  refine sv_iload_n (pc := 0) 1 (sv_d k_X_item 0 rfl) rfl rfl ?_
  refine sv_callS (pc := 1) (ψ := (ss_pi s)) (As := [.int x1]) (rest := []) (sv_d k_X_item 1 rfl) g_X_isTape w952 st_X_isTape rfl (Nat.le_of_ble_eq_true rfl) (V_X_isTape E (d + 0) x1 s) (Nat.le_of_ble_eq_true rfl) rfl (fun r1 => ?_)
  show sv_V E _ _ _ 4 _ [.int r1] (ss_e s) _
  refine sv_if_ne (pc := 4) (tgt := 9) (sv_d k_X_item 2 rfl) (by decide) ?_ ?_
  · refine sv_aload_n (pc := 9) 0 (sv_d k_X_item 5 rfl) rfl rfl ?_
    refine sv_getf (pc := 10) 8 (sv_d k_X_item 6 rfl) cf11 (by decide) w524 kd64 (ss_lt (by decide)) (lr_64_8 E _) ?_
    refine sv_getN (pc := 13) 0 (sv_d k_X_item 7 rfl) cf8 (by decide) w503 kd177 (ss_lt (by decide)) (lr_177_0 E _) ?_
    refine sv_iload_n (pc := 16) 1 (sv_d k_X_item 8 rfl) rfl rfl ?_
    refine ss_iald (pc := 17) (n := 6) (sv_d k_X_item 9 rfl) kd178 (ss_lt (by decide)) rfl ?_
    refine sv_iconst (pc := 18) (v := (-1 : Int32)) (sv_d k_X_item 10 rfl) (by decide) ?_
    refine sv_icmp_ne (pc := 19) (tgt := 25) (sv_d k_X_item 11 rfl) (by decide) ?_ ?_
    · refine sv_aload_n (pc := 25) 0 (sv_d k_X_item 14 rfl) rfl rfl ?_
      refine sv_getf (pc := 26) 8 (sv_d k_X_item 15 rfl) cf11 (by decide) w524 kd64 (ss_lt (by decide)) (lr_64_8 E _) ?_
      refine sv_iload_n (pc := 29) 1 (sv_d k_X_item 16 rfl) rfl rfl ?_
      refine sv_iload_n (pc := 30) 2 (sv_d k_X_item 17 rfl) rfl rfl ?_
      refine sv_iconst (pc := 31) (v := (1 : Int32)) (sv_d k_X_item 18 rfl) (by decide) ?_
      refine sv_callV (pc := 32) (ψ := (ss_pi s)) (As := [.int x1, .int x2, .int (1 : Int32)]) (rest := []) (c := 177) (sv_d k_X_item 19 rfl) g_Ta_reaches w1280 in_Ta_reaches se_Ta_reaches cf8 kd177 (ss_lt (by decide)) rfl (Nat.le_of_ble_eq_true rfl) (V_Ta_reaches E (d + 0) x1 x2 (1 : Int32) s) (Nat.le_of_ble_eq_true rfl) rfl (fun r2 => ?_)
      show sv_V E _ _ _ 35 _ [.int r2] (ss_e s) _
      refine sv_if_ne (pc := 35) (tgt := 41) (sv_d k_X_item 20 rfl) (by decide) ?_ ?_
      · refine sv_aload_n (pc := 41) 0 (sv_d k_X_item 23 rfl) rfl rfl ?_
        refine sv_getf (pc := 42) 8 (sv_d k_X_item 24 rfl) cf11 (by decide) w524 kd64 (ss_lt (by decide)) (lr_64_8 E _) ?_
        refine sv_getN (pc := 45) 2 (sv_d k_X_item 25 rfl) cf8 (by decide) w507 kd177 (ss_lt (by decide)) (lr_177_2 E _) ?_
        refine sv_iload_n (pc := 48) 1 (sv_d k_X_item 26 rfl) rfl rfl ?_
        refine ss_aaldT (pc := 49) (n := 6) (b := 181) (sv_d k_X_item 27 rfl) kd180 (by decide) (by decide) rfl (ss_lt (by decide)) rfl ss_row180 (by decide) (fun _ => rfl) (fun bb3 => ?_)
        refine sv_iload_n (pc := 50) 2 (sv_d k_X_item 28 rfl) rfl rfl ?_
        refine sv_aload_n (pc := 51) 0 (sv_d k_X_item 29 rfl) rfl rfl ?_
        refine sv_getf (pc := 52) 8 (sv_d k_X_item 30 rfl) cf11 (by decide) w524 kd64 (ss_lt (by decide)) (lr_64_8 E _) ?_
        refine sv_getN (pc := 55) 0 (sv_d k_X_item 31 rfl) cf8 (by decide) w503 kd177 (ss_lt (by decide)) (lr_177_0 E _) ?_
        refine sv_iload_n (pc := 58) 1 (sv_d k_X_item 32 rfl) rfl rfl ?_
        refine ss_iald (pc := 59) (n := 6) (sv_d k_X_item 33 rfl) kd178 (ss_lt (by decide)) rfl ?_
        refine sv_lload_n (pc := 60) 3 (sv_d k_X_item 34 rfl) rfl rfl ?_
        refine sv_callS (pc := 61) (ψ := (ss_pl s)) (As := [.int (s.1 178 x1.toNatClampNeg), .long y3]) (rest := [.int x2, sv_r E (181 + x1.toNatClampNeg)]) (sv_d k_X_item 35 rfl) g_Ta_cut w1284 st_Ta_cut rfl (Nat.le_of_ble_eq_true rfl) (V_Ta_cut E (d + 0) (s.1 178 x1.toNatClampNeg) y3 s) (Nat.le_of_ble_eq_true rfl) rfl (fun r4 => ?_)
        show sv_V E _ _ _ 64 _ [.long r4, .int x2, sv_r E (181 + x1.toNatClampNeg)] (ss_e s) _
        refine ss_last (pc := 64) (n := (ss_N s.2.2.2.1 (181 + x1.toNatClampNeg))) (sv_d k_X_item 36 rfl) (ss_kr180 _ bb3) (Nat.le_trans (by decide : 64 ≤ 181) (Nat.le_add_right _ _)) (ss_ltr (by decide : 181 + 6 ≤ 243) bb3) rfl (ss_lets (fun s5 e_s5 => ?_))
        refine sv_iconst (pc := 65) (v := (1 : Int32)) (sv_d k_X_item 37 rfl) (by decide) ?_
        exact sv_ret (pc := 66) (sv_d k_X_item 38 rfl) ⟨_, rfl, rfl⟩ rfl
      · refine sv_bipush (pc := 38) (v := (-13 : Int32)) (sv_d k_X_item 21 rfl) (by decide) ?_
        exact sv_ret (pc := 40) (sv_d k_X_item 22 rfl) ⟨_, rfl, rfl⟩ rfl
    · refine sv_bipush (pc := 22) (v := (-11 : Int32)) (sv_d k_X_item 12 rfl) (by decide) ?_
      exact sv_ret (pc := 24) (sv_d k_X_item 13 rfl) ⟨_, rfl, rfl⟩ rfl
  · refine sv_iconst (pc := 7) (v := (-1 : Int32)) (sv_d k_X_item 3 rfl) (by decide) ?_
    exact sv_ret (pc := 8) (sv_d k_X_item 4 rfl) ⟨_, rfl, rfl⟩ rfl
/-! X_read -/
abbrev m_X_read : sv_M := (yX11_read, cX11_read, 3, (some .long))
def t_X_read : List (Nat × Instr × Nat) := [(0, .iload_n 1, 1), (1, .invokestatic 247, 3), (4, .ifCond .eq 30, 3), (7, .aload_n 0, 1), (8, .getfield 78, 3), (11, .iload_n 1, 1), (12, .iload_n 2, 1), (13, .iconst 1, 1), (14, .invokevirtual 370, 3), (17, .ifCond .eq 17, 3), (20, .aload_n 0, 1), (21, .getfield 78, 3), (24, .getfield 374, 3), (27, .iload_n 1, 1), (28, .aaload, 1), (29, .iload_n 2, 1), (30, .laload, 1), (31, .goto 6, 3), (34, .ldc2_w 287, 3), (37, .lreturn, 1)]
theorem k_X_read : sv_tk m_X_read.2.1 t_X_read := by decide +kernel
theorem g_X_read : sv_G m_X_read 2 := ⟨by decide +kernel, sv_in 1290 (by decide +kernel) rfl, sv_in 90 (by decide +kernel) rfl, ⟨by decide, by decide⟩, by decide +kernel, by decide⟩
theorem in_X_read : Cond.instanceMethod m_X_read.1 ∈ sv_T := sv_in 1288 (by decide +kernel) rfl
theorem se_X_read : Cond.selects m_X_read.1.cls m_X_read.1 m_X_read.1 ∈ sv_T := sv_in 1289 (by decide +kernel) rfl
def F_X_read (x1 : Int32) (x2 : Int32) (s : sv_S) : Option (Int64) :=
  (F_X_isTape x1 s).bind fun r1 =>
  if r1 = 0 then
    some (-9223372036854775808 : Int64)
  else
  (F_Ta_reaches x1 x2 (1 : Int32) s).bind fun r2 =>
  if r2 = 0 then
    some (-9223372036854775808 : Int64)
  else
  if sv_ib x1 6 = true then
    if sv_ib x2 (ss_N s.2.2.2.1 (181 + x1.toNatClampNeg)) = true then
      some (s.2.1 (181 + x1.toNatClampNeg) x2.toNatClampNeg)
    else none
  else none
theorem V_X_read (E : sv_E) (d : Nat) (x1 : Int32) (x2 : Int32) (s : sv_S) : sv_V E m_X_read (d + 1) (ss_pl s) 0 (lv_args 0 [sv_r E 64, .int x1, .int x2]) [] (ss_e s) (F_X_read x1 x2 s) := by
  show sv_V E m_X_read (d + 1) (ss_pl s) 0 [(0, sv_r E 64), (1, .int x1), (2, .int x2)] [] (ss_e s) _
  unfold F_X_read
  refine sv_iload_n (pc := 0) 1 (sv_d k_X_read 0 rfl) rfl rfl ?_
  refine sv_callS (pc := 1) (ψ := (ss_pi s)) (As := [.int x1]) (rest := []) (sv_d k_X_read 1 rfl) g_X_isTape w952 st_X_isTape rfl (Nat.le_of_ble_eq_true rfl) (V_X_isTape E (d + 0) x1 s) (Nat.le_of_ble_eq_true rfl) rfl (fun r1 => ?_)
  show sv_V E _ _ _ 4 _ [.int r1] (ss_e s) _
  refine sv_if_eq (pc := 4) (tgt := 34) (sv_d k_X_read 2 rfl) (by decide) ?_ ?_
  · refine sv_ldc2 (pc := 34) (v := (-9223372036854775808 : Int64)) w1047 (sv_d k_X_read 18 rfl) ?_
    exact sv_ret (pc := 37) (sv_d k_X_read 19 rfl) ⟨_, rfl⟩ rfl
  · refine sv_aload_n (pc := 7) 0 (sv_d k_X_read 3 rfl) rfl rfl ?_
    refine sv_getf (pc := 8) 8 (sv_d k_X_read 4 rfl) cf11 (by decide) w524 kd64 (ss_lt (by decide)) (lr_64_8 E _) ?_
    refine sv_iload_n (pc := 11) 1 (sv_d k_X_read 5 rfl) rfl rfl ?_
    refine sv_iload_n (pc := 12) 2 (sv_d k_X_read 6 rfl) rfl rfl ?_
    refine sv_iconst (pc := 13) (v := (1 : Int32)) (sv_d k_X_read 7 rfl) (by decide) ?_
    refine sv_callV (pc := 14) (ψ := (ss_pi s)) (As := [.int x1, .int x2, .int (1 : Int32)]) (rest := []) (c := 177) (sv_d k_X_read 8 rfl) g_Ta_reaches w1280 in_Ta_reaches se_Ta_reaches cf8 kd177 (ss_lt (by decide)) rfl (Nat.le_of_ble_eq_true rfl) (V_Ta_reaches E (d + 0) x1 x2 (1 : Int32) s) (Nat.le_of_ble_eq_true rfl) rfl (fun r2 => ?_)
    show sv_V E _ _ _ 17 _ [.int r2] (ss_e s) _
    refine sv_if_eq (pc := 17) (tgt := 34) (sv_d k_X_read 9 rfl) (by decide) ?_ ?_
    · refine sv_ldc2 (pc := 34) (v := (-9223372036854775808 : Int64)) w1047 (sv_d k_X_read 18 rfl) ?_
      exact sv_ret (pc := 37) (sv_d k_X_read 19 rfl) ⟨_, rfl⟩ rfl
    · refine sv_aload_n (pc := 20) 0 (sv_d k_X_read 10 rfl) rfl rfl ?_
      refine sv_getf (pc := 21) 8 (sv_d k_X_read 11 rfl) cf11 (by decide) w524 kd64 (ss_lt (by decide)) (lr_64_8 E _) ?_
      refine sv_getN (pc := 24) 2 (sv_d k_X_read 12 rfl) cf8 (by decide) w507 kd177 (ss_lt (by decide)) (lr_177_2 E _) ?_
      refine sv_iload_n (pc := 27) 1 (sv_d k_X_read 13 rfl) rfl rfl ?_
      refine ss_aaldT (pc := 28) (n := 6) (b := 181) (sv_d k_X_read 14 rfl) kd180 (by decide) (by decide) rfl (ss_lt (by decide)) rfl ss_row180 (by decide) (fun _ => rfl) (fun bb3 => ?_)
      refine sv_iload_n (pc := 29) 2 (sv_d k_X_read 15 rfl) rfl rfl ?_
      refine ss_lald (pc := 30) (n := (ss_N s.2.2.2.1 (181 + x1.toNatClampNeg))) (sv_d k_X_read 16 rfl) (ss_kr180 _ bb3) (ss_ltr (by decide : 181 + 6 ≤ 243) bb3) rfl ?_
      refine sv_goto (pc := 31) (tgt := 37) (sv_d k_X_read 17 rfl) (by decide) ?_
      exact sv_ret (pc := 37) (sv_d k_X_read 19 rfl) ⟨_, rfl⟩ rfl
/-! X_shift -/
abbrev m_X_shift : sv_M := (yX11_shift, cX11_shift, 6, (some .int))
def t_X_shift : List (Nat × Instr × Nat) := [(0, .iload_n 1, 1), (1, .invokestatic 247, 3), (4, .ifCond .eq 10, 3), (7, .iload_n 3, 1), (8, .invokestatic 247, 3), (11, .ifCond .ne 5, 3), (14, .iconst (-1), 1), (15, .ireturn, 1), (16, .aload_n 0, 1), (17, .getfield 78, 3), (20, .getfield 250, 3), (23, .iload_n 1, 1), (24, .iaload, 1), (25, .iconst (-1), 1), (26, .if_icmp .eq 16, 3), (29, .aload_n 0, 1), (30, .getfield 78, 3), (33, .getfield 250, 3), (36, .iload_n 3, 1), (37, .iaload, 1), (38, .iconst (-1), 1), (39, .if_icmp .ne 6, 3), (42, .bipush (-11), 2), (44, .ireturn, 1), (45, .aload_n 0, 1), (46, .getfield 78, 3), (49, .getfield 250, 3), (52, .iload_n 1, 1), (53, .iaload, 1), (54, .aload_n 0, 1), (55, .getfield 78, 3), (58, .getfield 250, 3), (61, .iload_n 3, 1), (62, .iaload, 1), (63, .if_icmp .eq 6, 3), (66, .bipush (-12), 2), (68, .ireturn, 1), (69, .aload_n 0, 1), (70, .getfield 78, 3), (73, .iload_n 1, 1), (74, .iload_n 2, 1), (75, .iload 5, 2), (77, .invokevirtual 370, 3), (80, .ifCond .eq 18, 3), (83, .aload_n 0, 1), (84, .getfield 78, 3), (87, .iload_n 3, 1), (88, .iload 4, 2), (90, .iload 5, 2), (92, .invokevirtual 370, 3), (95, .ifCond .ne 6, 3), (98, .bipush (-13), 2), (100, .ireturn, 1), (101, .aload_n 0, 1), (102, .getfield 78, 3), (105, .getfield 374, 3), (108, .iload_n 1, 1), (109, .aaload, 1), (110, .iload_n 2, 1), (111, .aload_n 0, 1), (112, .getfield 78, 3), (115, .getfield 374, 3), (118, .iload_n 3, 1), (119, .aaload, 1), (120, .iload 4, 2), (122, .iload 5, 2), (124, .invokestatic 382, 3), (127, .iload 5, 2), (129, .ireturn, 1)]
theorem k_X_shift : sv_tk m_X_shift.2.1 t_X_shift := by decide +kernel
theorem g_X_shift : sv_G m_X_shift 5 := ⟨by decide +kernel, sv_in 1294 (by decide +kernel) rfl, sv_in 90 (by decide +kernel) rfl, ⟨by decide, by decide⟩, by decide +kernel, by decide⟩
theorem in_X_shift : Cond.instanceMethod m_X_shift.1 ∈ sv_T := sv_in 1292 (by decide +kernel) rfl
theorem se_X_shift : Cond.selects m_X_shift.1.cls m_X_shift.1 m_X_shift.1 ∈ sv_T := sv_in 1293 (by decide +kernel) rfl
def F_X_shift (x1 : Int32) (x2 : Int32) (x3 : Int32) (x4 : Int32) (x5 : Int32) (s : sv_S) : Option (Int32 × sv_S) :=
  (F_X_isTape x1 s).bind fun r1 =>
  if r1 = 0 then
    some ((-1 : Int32), s)
  else
  (F_X_isTape x3 s).bind fun r2 =>
  if r2 = 0 then
    some ((-1 : Int32), s)
  else
  if sv_ib x1 6 = true then
    if (s.1 178 x1.toNatClampNeg) = (-1 : Int32) then
      some ((-11 : Int32), s)
    else
    if sv_ib x3 6 = true then
      if (s.1 178 x3.toNatClampNeg) = (-1 : Int32) then
        some ((-11 : Int32), s)
      else
      if sv_ib x1 6 = true then
        if sv_ib x3 6 = true then
          if (s.1 178 x1.toNatClampNeg) = (s.1 178 x3.toNatClampNeg) then
            (F_Ta_reaches x1 x2 x5 s).bind fun r3 =>
            if r3 = 0 then
              some ((-13 : Int32), s)
            else
            (F_Ta_reaches x3 x4 x5 s).bind fun r4 =>
            if r4 = 0 then
              some ((-13 : Int32), s)
            else
            if sv_ib x1 6 = true then
              if sv_ib x3 6 = true then
                if sv_cpb x2 x4 x5 (ss_N s.2.2.2.1 (181 + x1.toNatClampNeg)) (ss_N s.2.2.2.1 (181 + x3.toNatClampNeg)) = true then
                  ss_let (ss_cpyL s (181 + x1.toNatClampNeg) (181 + x3.toNatClampNeg) x2.toNatClampNeg x4.toNatClampNeg x5.toNatClampNeg) fun s7 =>
                  some (x5, s7)
                else none
              else none
            else none
          else
          some ((-12 : Int32), s)
        else none
      else none
    else none
  else none
theorem V_X_shift (E : sv_E) (d : Nat) (x1 : Int32) (x2 : Int32) (x3 : Int32) (x4 : Int32) (x5 : Int32) (s : sv_S) : sv_V E m_X_shift (d + 1) ss_i 0 (lv_args 0 [sv_r E 64, .int x1, .int x2, .int x3, .int x4, .int x5]) [] (ss_e s) (F_X_shift x1 x2 x3 x4 x5 s) := by
  show sv_V E m_X_shift (d + 1) ss_i 0 [(0, sv_r E 64), (1, .int x1), (2, .int x2), (3, .int x3), (4, .int x4), (5, .int x5)] [] (ss_e s) _
  unfold F_X_shift
  refine sv_iload_n (pc := 0) 1 (sv_d k_X_shift 0 rfl) rfl rfl ?_
  refine sv_callS (pc := 1) (ψ := (ss_pi s)) (As := [.int x1]) (rest := []) (sv_d k_X_shift 1 rfl) g_X_isTape w952 st_X_isTape rfl (Nat.le_of_ble_eq_true rfl) (V_X_isTape E (d + 0) x1 s) (Nat.le_of_ble_eq_true rfl) rfl (fun r1 => ?_)
  show sv_V E _ _ _ 4 _ [.int r1] (ss_e s) _
  refine sv_if_eq (pc := 4) (tgt := 14) (sv_d k_X_shift 2 rfl) (by decide) ?_ ?_
  · refine sv_iconst (pc := 14) (v := (-1 : Int32)) (sv_d k_X_shift 6 rfl) (by decide) ?_
    exact sv_ret (pc := 15) (sv_d k_X_shift 7 rfl) ⟨_, rfl, rfl⟩ rfl
  · refine sv_iload_n (pc := 7) 3 (sv_d k_X_shift 3 rfl) rfl rfl ?_
    refine sv_callS (pc := 8) (ψ := (ss_pi s)) (As := [.int x3]) (rest := []) (sv_d k_X_shift 4 rfl) g_X_isTape w952 st_X_isTape rfl (Nat.le_of_ble_eq_true rfl) (V_X_isTape E (d + 0) x3 s) (Nat.le_of_ble_eq_true rfl) rfl (fun r2 => ?_)
    show sv_V E _ _ _ 11 _ [.int r2] (ss_e s) _
    refine sv_if_ne (pc := 11) (tgt := 16) (sv_d k_X_shift 5 rfl) (by decide) ?_ ?_
    · refine sv_aload_n (pc := 16) 0 (sv_d k_X_shift 8 rfl) rfl rfl ?_
      refine sv_getf (pc := 17) 8 (sv_d k_X_shift 9 rfl) cf11 (by decide) w524 kd64 (ss_lt (by decide)) (lr_64_8 E _) ?_
      refine sv_getN (pc := 20) 0 (sv_d k_X_shift 10 rfl) cf8 (by decide) w503 kd177 (ss_lt (by decide)) (lr_177_0 E _) ?_
      refine sv_iload_n (pc := 23) 1 (sv_d k_X_shift 11 rfl) rfl rfl ?_
      refine ss_iald (pc := 24) (n := 6) (sv_d k_X_shift 12 rfl) kd178 (ss_lt (by decide)) rfl ?_
      refine sv_iconst (pc := 25) (v := (-1 : Int32)) (sv_d k_X_shift 13 rfl) (by decide) ?_
      refine sv_icmp_eq (pc := 26) (tgt := 42) (sv_d k_X_shift 14 rfl) (by decide) ?_ ?_
      · refine sv_bipush (pc := 42) (v := (-11 : Int32)) (sv_d k_X_shift 22 rfl) (by decide) ?_
        exact sv_ret (pc := 44) (sv_d k_X_shift 23 rfl) ⟨_, rfl, rfl⟩ rfl
      · refine sv_aload_n (pc := 29) 0 (sv_d k_X_shift 15 rfl) rfl rfl ?_
        refine sv_getf (pc := 30) 8 (sv_d k_X_shift 16 rfl) cf11 (by decide) w524 kd64 (ss_lt (by decide)) (lr_64_8 E _) ?_
        refine sv_getN (pc := 33) 0 (sv_d k_X_shift 17 rfl) cf8 (by decide) w503 kd177 (ss_lt (by decide)) (lr_177_0 E _) ?_
        refine sv_iload_n (pc := 36) 3 (sv_d k_X_shift 18 rfl) rfl rfl ?_
        refine ss_iald (pc := 37) (n := 6) (sv_d k_X_shift 19 rfl) kd178 (ss_lt (by decide)) rfl ?_
        refine sv_iconst (pc := 38) (v := (-1 : Int32)) (sv_d k_X_shift 20 rfl) (by decide) ?_
        refine sv_icmp_ne (pc := 39) (tgt := 45) (sv_d k_X_shift 21 rfl) (by decide) ?_ ?_
        · refine sv_aload_n (pc := 45) 0 (sv_d k_X_shift 24 rfl) rfl rfl ?_
          refine sv_getf (pc := 46) 8 (sv_d k_X_shift 25 rfl) cf11 (by decide) w524 kd64 (ss_lt (by decide)) (lr_64_8 E _) ?_
          refine sv_getN (pc := 49) 0 (sv_d k_X_shift 26 rfl) cf8 (by decide) w503 kd177 (ss_lt (by decide)) (lr_177_0 E _) ?_
          refine sv_iload_n (pc := 52) 1 (sv_d k_X_shift 27 rfl) rfl rfl ?_
          refine ss_iald (pc := 53) (n := 6) (sv_d k_X_shift 28 rfl) kd178 (ss_lt (by decide)) rfl ?_
          refine sv_aload_n (pc := 54) 0 (sv_d k_X_shift 29 rfl) rfl rfl ?_
          refine sv_getf (pc := 55) 8 (sv_d k_X_shift 30 rfl) cf11 (by decide) w524 kd64 (ss_lt (by decide)) (lr_64_8 E _) ?_
          refine sv_getN (pc := 58) 0 (sv_d k_X_shift 31 rfl) cf8 (by decide) w503 kd177 (ss_lt (by decide)) (lr_177_0 E _) ?_
          refine sv_iload_n (pc := 61) 3 (sv_d k_X_shift 32 rfl) rfl rfl ?_
          refine ss_iald (pc := 62) (n := 6) (sv_d k_X_shift 33 rfl) kd178 (ss_lt (by decide)) rfl ?_
          refine sv_icmp_eq (pc := 63) (tgt := 69) (sv_d k_X_shift 34 rfl) (by decide) ?_ ?_
          · refine sv_aload_n (pc := 69) 0 (sv_d k_X_shift 37 rfl) rfl rfl ?_
            refine sv_getf (pc := 70) 8 (sv_d k_X_shift 38 rfl) cf11 (by decide) w524 kd64 (ss_lt (by decide)) (lr_64_8 E _) ?_
            refine sv_iload_n (pc := 73) 1 (sv_d k_X_shift 39 rfl) rfl rfl ?_
            refine sv_iload_n (pc := 74) 2 (sv_d k_X_shift 40 rfl) rfl rfl ?_
            refine sv_iload (pc := 75) 5 (sv_d k_X_shift 41 rfl) rfl ?_
            refine sv_callV (pc := 77) (ψ := (ss_pi s)) (As := [.int x1, .int x2, .int x5]) (rest := []) (c := 177) (sv_d k_X_shift 42 rfl) g_Ta_reaches w1280 in_Ta_reaches se_Ta_reaches cf8 kd177 (ss_lt (by decide)) rfl (Nat.le_of_ble_eq_true rfl) (V_Ta_reaches E (d + 0) x1 x2 x5 s) (Nat.le_of_ble_eq_true rfl) rfl (fun r3 => ?_)
            show sv_V E _ _ _ 80 _ [.int r3] (ss_e s) _
            refine sv_if_eq (pc := 80) (tgt := 98) (sv_d k_X_shift 43 rfl) (by decide) ?_ ?_
            · refine sv_bipush (pc := 98) (v := (-13 : Int32)) (sv_d k_X_shift 51 rfl) (by decide) ?_
              exact sv_ret (pc := 100) (sv_d k_X_shift 52 rfl) ⟨_, rfl, rfl⟩ rfl
            · refine sv_aload_n (pc := 83) 0 (sv_d k_X_shift 44 rfl) rfl rfl ?_
              refine sv_getf (pc := 84) 8 (sv_d k_X_shift 45 rfl) cf11 (by decide) w524 kd64 (ss_lt (by decide)) (lr_64_8 E _) ?_
              refine sv_iload_n (pc := 87) 3 (sv_d k_X_shift 46 rfl) rfl rfl ?_
              refine sv_iload (pc := 88) 4 (sv_d k_X_shift 47 rfl) rfl ?_
              refine sv_iload (pc := 90) 5 (sv_d k_X_shift 48 rfl) rfl ?_
              refine sv_callV (pc := 92) (ψ := (ss_pi s)) (As := [.int x3, .int x4, .int x5]) (rest := []) (c := 177) (sv_d k_X_shift 49 rfl) g_Ta_reaches w1280 in_Ta_reaches se_Ta_reaches cf8 kd177 (ss_lt (by decide)) rfl (Nat.le_of_ble_eq_true rfl) (V_Ta_reaches E (d + 0) x3 x4 x5 s) (Nat.le_of_ble_eq_true rfl) rfl (fun r4 => ?_)
              show sv_V E _ _ _ 95 _ [.int r4] (ss_e s) _
              refine sv_if_ne (pc := 95) (tgt := 101) (sv_d k_X_shift 50 rfl) (by decide) ?_ ?_
              · refine sv_aload_n (pc := 101) 0 (sv_d k_X_shift 53 rfl) rfl rfl ?_
                refine sv_getf (pc := 102) 8 (sv_d k_X_shift 54 rfl) cf11 (by decide) w524 kd64 (ss_lt (by decide)) (lr_64_8 E _) ?_
                refine sv_getN (pc := 105) 2 (sv_d k_X_shift 55 rfl) cf8 (by decide) w507 kd177 (ss_lt (by decide)) (lr_177_2 E _) ?_
                refine sv_iload_n (pc := 108) 1 (sv_d k_X_shift 56 rfl) rfl rfl ?_
                refine ss_aaldT (pc := 109) (n := 6) (b := 181) (sv_d k_X_shift 57 rfl) kd180 (by decide) (by decide) rfl (ss_lt (by decide)) rfl ss_row180 (by decide) (fun _ => rfl) (fun bb5 => ?_)
                refine sv_iload_n (pc := 110) 2 (sv_d k_X_shift 58 rfl) rfl rfl ?_
                refine sv_aload_n (pc := 111) 0 (sv_d k_X_shift 59 rfl) rfl rfl ?_
                refine sv_getf (pc := 112) 8 (sv_d k_X_shift 60 rfl) cf11 (by decide) w524 kd64 (ss_lt (by decide)) (lr_64_8 E _) ?_
                refine sv_getN (pc := 115) 2 (sv_d k_X_shift 61 rfl) cf8 (by decide) w507 kd177 (ss_lt (by decide)) (lr_177_2 E _) ?_
                refine sv_iload_n (pc := 118) 3 (sv_d k_X_shift 62 rfl) rfl rfl ?_
                refine ss_aaldT (pc := 119) (n := 6) (b := 181) (sv_d k_X_shift 63 rfl) kd180 (by decide) (by decide) rfl (ss_lt (by decide)) rfl ss_row180 (by decide) (fun _ => rfl) (fun bb6 => ?_)
                refine sv_iload (pc := 120) 4 (sv_d k_X_shift 64 rfl) rfl ?_
                refine sv_iload (pc := 122) 5 (sv_d k_X_shift 65 rfl) rfl ?_
                refine ss_acopyL (pc := 124) (n0 := (ss_N s.2.2.2.1 (181 + x1.toNatClampNeg))) (n1 := (ss_N s.2.2.2.1 (181 + x3.toNatClampNeg))) (sv_d k_X_shift 66 rfl) w1295 (ss_kr180 _ bb5) (ss_kr180 _ bb6) (Nat.le_trans (by decide : 64 ≤ 181) (Nat.le_add_right _ _)) (Nat.le_trans (by decide : 64 ≤ 181) (Nat.le_add_right _ _)) (ss_ltr (by decide : 181 + 6 ≤ 243) bb5) (ss_ltr (by decide : 181 + 6 ≤ 243) bb6) rfl rfl (Nat.le_of_ble_eq_true rfl) (ss_lets (fun s7 e_s7 => ?_))
                refine sv_iload (pc := 127) 5 (sv_d k_X_shift 67 rfl) rfl ?_
                exact sv_ret (pc := 129) (sv_d k_X_shift 68 rfl) ⟨_, rfl, rfl⟩ rfl
              · refine sv_bipush (pc := 98) (v := (-13 : Int32)) (sv_d k_X_shift 51 rfl) (by decide) ?_
                exact sv_ret (pc := 100) (sv_d k_X_shift 52 rfl) ⟨_, rfl, rfl⟩ rfl
          · refine sv_bipush (pc := 66) (v := (-12 : Int32)) (sv_d k_X_shift 35 rfl) (by decide) ?_
            exact sv_ret (pc := 68) (sv_d k_X_shift 36 rfl) ⟨_, rfl, rfl⟩ rfl
        · refine sv_bipush (pc := 42) (v := (-11 : Int32)) (sv_d k_X_shift 22 rfl) (by decide) ?_
          exact sv_ret (pc := 44) (sv_d k_X_shift 23 rfl) ⟨_, rfl, rfl⟩ rfl
    · refine sv_iconst (pc := 14) (v := (-1 : Int32)) (sv_d k_X_shift 6 rfl) (by decide) ?_
      exact sv_ret (pc := 15) (sv_d k_X_shift 7 rfl) ⟨_, rfl, rfl⟩ rfl
