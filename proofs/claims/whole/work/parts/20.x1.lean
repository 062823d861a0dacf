/-! X_isOwner -/
abbrev m_X_isOwner : sv_M := (yX11_isOwner, cX11_isOwner, 1, (some .boolean))
def t_X_isOwner : List (Nat × Instr × Nat) := [(0, .iload_n 0, 1), (1, .ifCond .lt 13, 3), (4, .iload_n 0, 1), (5, .bipush 6, 2), (7, .if_icmp .ge 7, 3), (10, .iconst 1, 1), (11, .goto 4, 3), (14, .iconst 0, 1), (15, .ireturn, 1)]
theorem k_X_isOwner : sv_tk m_X_isOwner.2.1 t_X_isOwner := by decide +kernel
theorem g_X_isOwner : sv_G m_X_isOwner 1 := ⟨by decide +kernel, sv_in 560 (by decide +kernel) rfl, sv_in 90 (by decide +kernel) rfl, ⟨by decide, by decide⟩, by decide +kernel, by decide⟩
theorem st_X_isOwner : Cond.static m_X_isOwner.1 ∈ sv_T := sv_in 559 (by decide +kernel) rfl
def F_X_isOwner (x0 : Int32) (s : sv_S) : Option (Int32) :=
  if x0 < 0 then
    some (0 : Int32)
  else
  if (6 : Int32) ≤ x0 then
    some (0 : Int32)
  else
  some (1 : Int32)
theorem V_X_isOwner (E : sv_E) (d : Nat) (x0 : Int32) (s : sv_S) : sv_V E m_X_isOwner (d + 0) (ss_pi s) 0 (lv_args 0 [.int x0]) [] (ss_e s) (F_X_isOwner x0 s) := by
  show sv_V E m_X_isOwner (d + 0) (ss_pi s) 0 [(0, .int x0)] [] (ss_e s) _
  unfold F_X_isOwner
  refine sv_iload_n (pc := 0) 0 (sv_d k_X_isOwner 0 rfl) rfl rfl ?_
  refine sv_if_lt (pc := 1) (tgt := 14) (sv_d k_X_isOwner 1 rfl) (by decide) ?_ ?_
  · refine sv_iconst (pc := 14) (v := (0 : Int32)) (sv_d k_X_isOwner 7 rfl) (by decide) ?_
    exact sv_ret (pc := 15) (sv_d k_X_isOwner 8 rfl) ⟨_, rfl, rfl⟩ rfl
  · refine sv_iload_n (pc := 4) 0 (sv_d k_X_isOwner 2 rfl) rfl rfl ?_
    refine sv_bipush (pc := 5) (v := (6 : Int32)) (sv_d k_X_isOwner 3 rfl) (by decide) ?_
    refine sv_icmp_ge (pc := 7) (tgt := 14) (sv_d k_X_isOwner 4 rfl) (by decide) ?_ ?_
    · refine sv_iconst (pc := 14) (v := (0 : Int32)) (sv_d k_X_isOwner 7 rfl) (by decide) ?_
      exact sv_ret (pc := 15) (sv_d k_X_isOwner 8 rfl) ⟨_, rfl, rfl⟩ rfl
    · refine sv_iconst (pc := 10) (v := (1 : Int32)) (sv_d k_X_isOwner 5 rfl) (by decide) ?_
      refine sv_goto (pc := 11) (tgt := 15) (sv_d k_X_isOwner 6 rfl) (by decide) ?_
      exact sv_ret (pc := 15) (sv_d k_X_isOwner 8 rfl) ⟨_, rfl, rfl⟩ rfl
/-! X_isOwnerOrNoOne -/
abbrev m_X_isOwnerOrNoOne : sv_M := (yX11_isOwnerOrNoOne, cX11_isOwnerOrNoOne, 1, (some .boolean))
def t_X_isOwnerOrNoOne : List (Nat × Instr × Nat) := [(0, .iload_n 0, 1), (1, .iconst (-1), 1), (2, .if_icmp .eq 10, 3), (5, .iload_n 0, 1), (6, .invokestatic 89, 3), (9, .ifCond .eq 7, 3), (12, .iconst 1, 1), (13, .goto 4, 3), (16, .iconst 0, 1), (17, .ireturn, 1)]
theorem k_X_isOwnerOrNoOne : sv_tk m_X_isOwnerOrNoOne.2.1 t_X_isOwnerOrNoOne := by decide +kernel
theorem g_X_isOwnerOrNoOne : sv_G m_X_isOwnerOrNoOne 1 := ⟨by decide +kernel, sv_in 587 (by decide +kernel) rfl, sv_in 90 (by decide +kernel) rfl, ⟨by decide, by decide⟩, by decide +kernel, by decide⟩
theorem st_X_isOwnerOrNoOne : Cond.static m_X_isOwnerOrNoOne.1 ∈ sv_T := sv_in 586 (by decide +kernel) rfl
def F_X_isOwnerOrNoOne (x0 : Int32) (s : sv_S) : Option (Int32) :=
  if x0 = (-1 : Int32) then
    some (1 : Int32)
  else
  (F_X_isOwner x0 s).bind fun r1 =>
  if r1 = 0 then
    some (0 : Int32)
  else
  some (1 : Int32)
theorem V_X_isOwnerOrNoOne (E : sv_E) (d : Nat) (x0 : Int32) (s : sv_S) : sv_V E m_X_isOwnerOrNoOne (d + 1) (ss_pi s) 0 (lv_args 0 [.int x0]) [] (ss_e s) (F_X_isOwnerOrNoOne x0 s) := by
  show sv_V E m_X_isOwnerOrNoOne (d + 1) (ss_pi s) 0 [(0, .int x0)] [] (ss_e s) _
  unfold F_X_isOwnerOrNoOne
  refine sv_iload_n (pc := 0) 0 (sv_d k_X_isOwnerOrNoOne 0 rfl) rfl rfl ?_
  refine sv_iconst (pc := 1) (v := (-1 : Int32)) (sv_d k_X_isOwnerOrNoOne 1 rfl) (by decide) ?_
  refine sv_icmp_eq (pc := 2) (tgt := 12) (sv_d k_X_isOwnerOrNoOne 2 rfl) (by decide) ?_ ?_
  · refine sv_iconst (pc := 12) (v := (1 : Int32)) (sv_d k_X_isOwnerOrNoOne 6 rfl) (by decide) ?_
    refine sv_goto (pc := 13) (tgt := 17) (sv_d k_X_isOwnerOrNoOne 7 rfl) (by decide) ?_
    exact sv_ret (pc := 17) (sv_d k_X_isOwnerOrNoOne 9 rfl) ⟨_, rfl, rfl⟩ rfl
  · refine sv_iload_n (pc := 5) 0 (sv_d k_X_isOwnerOrNoOne 3 rfl) rfl rfl ?_
    refine sv_callS (pc := 6) (ψ := (ss_pi s)) (As := [.int x0]) (rest := []) (sv_d k_X_isOwnerOrNoOne 4 rfl) g_X_isOwner w558 st_X_isOwner rfl (Nat.le_of_ble_eq_true rfl) (V_X_isOwner E (d + 0) x0 s) (Nat.le_of_ble_eq_true rfl) rfl (fun r1 => ?_)
    show sv_V E _ _ _ 9 _ [.int r1] (ss_e s) _
    refine sv_if_eq (pc := 9) (tgt := 16) (sv_d k_X_isOwnerOrNoOne 5 rfl) (by decide) ?_ ?_
    · refine sv_iconst (pc := 16) (v := (0 : Int32)) (sv_d k_X_isOwnerOrNoOne 8 rfl) (by decide) ?_
      exact sv_ret (pc := 17) (sv_d k_X_isOwnerOrNoOne 9 rfl) ⟨_, rfl, rfl⟩ rfl
    · refine sv_iconst (pc := 12) (v := (1 : Int32)) (sv_d k_X_isOwnerOrNoOne 6 rfl) (by decide) ?_
      refine sv_goto (pc := 13) (tgt := 17) (sv_d k_X_isOwnerOrNoOne 7 rfl) (by decide) ?_
      exact sv_ret (pc := 17) (sv_d k_X_isOwnerOrNoOne 9 rfl) ⟨_, rfl, rfl⟩ rfl
/-! X_isStation -/
abbrev m_X_isStation : sv_M := (yX11_isStation, cX11_isStation, 1, (some .boolean))
def t_X_isStation : List (Nat × Instr × Nat) := [(0, .iload_n 0, 1), (1, .ifCond .lt 13, 3), (4, .iload_n 0, 1), (5, .bipush 16, 2), (7, .if_icmp .ge 7, 3), (10, .iconst 1, 1), (11, .goto 4, 3), (14, .iconst 0, 1), (15, .ireturn, 1)]
theorem k_X_isStation : sv_tk m_X_isStation.2.1 t_X_isStation := by decide +kernel
theorem g_X_isStation : sv_G m_X_isStation 1 := ⟨by decide +kernel, sv_in 566 (by decide +kernel) rfl, sv_in 90 (by decide +kernel) rfl, ⟨by decide, by decide⟩, by decide +kernel, by decide⟩
theorem st_X_isStation : Cond.static m_X_isStation.1 ∈ sv_T := sv_in 565 (by decide +kernel) rfl
def F_X_isStation (x0 : Int32) (s : sv_S) : Option (Int32) :=
  if x0 < 0 then
    some (0 : Int32)
  else
  if (16 : Int32) ≤ x0 then
    some (0 : Int32)
  else
  some (1 : Int32)
theorem V_X_isStation (E : sv_E) (d : Nat) (x0 : Int32) (s : sv_S) : sv_V E m_X_isStation (d + 0) (ss_pi s) 0 (lv_args 0 [.int x0]) [] (ss_e s) (F_X_isStation x0 s) := by
  show sv_V E m_X_isStation (d + 0) (ss_pi s) 0 [(0, .int x0)] [] (ss_e s) _
  unfold F_X_isStation
  refine sv_iload_n (pc := 0) 0 (sv_d k_X_isStation 0 rfl) rfl rfl ?_
  refine sv_if_lt (pc := 1) (tgt := 14) (sv_d k_X_isStation 1 rfl) (by decide) ?_ ?_
  · refine sv_iconst (pc := 14) (v := (0 : Int32)) (sv_d k_X_isStation 7 rfl) (by decide) ?_
    exact sv_ret (pc := 15) (sv_d k_X_isStation 8 rfl) ⟨_, rfl, rfl⟩ rfl
  · refine sv_iload_n (pc := 4) 0 (sv_d k_X_isStation 2 rfl) rfl rfl ?_
    refine sv_bipush (pc := 5) (v := (16 : Int32)) (sv_d k_X_isStation 3 rfl) (by decide) ?_
    refine sv_icmp_ge (pc := 7) (tgt := 14) (sv_d k_X_isStation 4 rfl) (by decide) ?_ ?_
    · refine sv_iconst (pc := 14) (v := (0 : Int32)) (sv_d k_X_isStation 7 rfl) (by decide) ?_
      exact sv_ret (pc := 15) (sv_d k_X_isStation 8 rfl) ⟨_, rfl, rfl⟩ rfl
    · refine sv_iconst (pc := 10) (v := (1 : Int32)) (sv_d k_X_isStation 5 rfl) (by decide) ?_
      refine sv_goto (pc := 11) (tgt := 15) (sv_d k_X_isStation 6 rfl) (by decide) ?_
      exact sv_ret (pc := 15) (sv_d k_X_isStation 8 rfl) ⟨_, rfl, rfl⟩ rfl
/-! X_areStations -/
abbrev m_X_areStations : sv_M := (yX11_areStations, cX11_areStations, 2, (some .boolean))
def t_X_areStations : List (Nat × Instr × Nat) := [(0, .iload_n 0, 1), (1, .invokestatic 280, 3), (4, .ifCond .eq 14, 3), (7, .iload_n 1, 1), (8, .invokestatic 280, 3), (11, .ifCond .eq 7, 3), (14, .iconst 1, 1), (15, .goto 4, 3), (18, .iconst 0, 1), (19, .ireturn, 1)]
theorem k_X_areStations : sv_tk m_X_areStations.2.1 t_X_areStations := by decide +kernel
theorem g_X_areStations : sv_G m_X_areStations 2 := ⟨by decide +kernel, sv_in 563 (by decide +kernel) rfl, sv_in 90 (by decide +kernel) rfl, ⟨by decide, by decide⟩, by decide +kernel, by decide⟩
theorem st_X_areStations : Cond.static m_X_areStations.1 ∈ sv_T := sv_in 562 (by decide +kernel) rfl
def F_X_areStations (x0 : Int32) (x1 : Int32) (s : sv_S) : Option (Int32) :=
  (F_X_isStation x0 s).bind fun r1 =>
  if r1 = 0 then
    some (0 : Int32)
  else
  (F_X_isStation x1 s).bind fun r2 =>
  if r2 = 0 then
    some (0 : Int32)
  else
  some (1 : Int32)
theorem V_X_areStations (E : sv_E) (d : Nat) (x0 : Int32) (x1 : Int32) (s : sv_S) : sv_V E m_X_areStations (d + 1) (ss_pi s) 0 (lv_args 0 [.int x0, .int x1]) [] (ss_e s) (F_X_areStations x0 x1 s) := by
  show sv_V E m_X_areStations (d + 1) (ss_pi s) 0 [(0, .int x0), (1, .int x1)] [] (ss_e s) _
  unfold F_X_areStations
  refine sv_iload_n (pc := 0) 0 (sv_d k_X_areStations 0 rfl) rfl rfl ?_
  refine sv_callS (pc := 1) (ψ := (ss_pi s)) (As := [.int x0]) (rest := []) (sv_d k_X_areStations 1 rfl) g_X_isStation w564 st_X_isStation rfl (Nat.le_of_ble_eq_true rfl) (V_X_isStation E (d + 0) x0 s) (Nat.le_of_ble_eq_true rfl) rfl (fun r1 => ?_)
  show sv_V E _ _ _ 4 _ [.int r1] (ss_e s) _
  refine sv_if_eq (pc := 4) (tgt := 18) (sv_d k_X_areStations 2 rfl) (by decide) ?_ ?_
  · refine sv_iconst (pc := 18) (v := (0 : Int32)) (sv_d k_X_areStations 8 rfl) (by decide) ?_
    exact sv_ret (pc := 19) (sv_d k_X_areStations 9 rfl) ⟨_, rfl, rfl⟩ rfl
  · refine sv_iload_n (pc := 7) 1 (sv_d k_X_areStations 3 rfl) rfl rfl ?_
    refine sv_callS (pc := 8) (ψ := (ss_pi s)) (As := [.int x1]) (rest := []) (sv_d k_X_areStations 4 rfl) g_X_isStation w564 st_X_isStation rfl (Nat.le_of_ble_eq_true rfl) (V_X_isStation E (d + 0) x1 s) (Nat.le_of_ble_eq_true rfl) rfl (fun r2 => ?_)
    show sv_V E _ _ _ 11 _ [.int r2] (ss_e s) _
    refine sv_if_eq (pc := 11) (tgt := 18) (sv_d k_X_areStations 5 rfl) (by decide) ?_ ?_
    · refine sv_iconst (pc := 18) (v := (0 : Int32)) (sv_d k_X_areStations 8 rfl) (by decide) ?_
      exact sv_ret (pc := 19) (sv_d k_X_areStations 9 rfl) ⟨_, rfl, rfl⟩ rfl
    · refine sv_iconst (pc := 14) (v := (1 : Int32)) (sv_d k_X_areStations 6 rfl) (by decide) ?_
      refine sv_goto (pc := 15) (tgt := 19) (sv_d k_X_areStations 7 rfl) (by decide) ?_
      exact sv_ret (pc := 19) (sv_d k_X_areStations 9 rfl) ⟨_, rfl, rfl⟩ rfl
/-! X_isGood -/
abbrev m_X_isGood : sv_M := (yX11_isGood, cX11_isGood, 1, (some .boolean))
def t_X_isGood : List (Nat × Instr × Nat) := [(0, .iload_n 0, 1), (1, .ifCond .lt 13, 3), (4, .iload_n 0, 1), (5, .bipush 20, 2), (7, .if_icmp .ge 7, 3), (10, .iconst 1, 1), (11, .goto 4, 3), (14, .iconst 0, 1), (15, .ireturn, 1)]
theorem k_X_isGood : sv_tk m_X_isGood.2.1 t_X_isGood := by decide +kernel
theorem g_X_isGood : sv_G m_X_isGood 1 := ⟨by decide +kernel, sv_in 830 (by decide +kernel) rfl, sv_in 90 (by decide +kernel) rfl, ⟨by decide, by decide⟩, by decide +kernel, by decide⟩
theorem st_X_isGood : Cond.static m_X_isGood.1 ∈ sv_T := sv_in 829 (by decide +kernel) rfl
def F_X_isGood (x0 : Int32) (s : sv_S) : Option (Int32) :=
  if x0 < 0 then
    some (0 : Int32)
  else
  if (20 : Int32) ≤ x0 then
    some (0 : Int32)
  else
  some (1 : Int32)
theorem V_X_isGood (E : sv_E) (d : Nat) (x0 : Int32) (s : sv_S) : sv_V E m_X_isGood (d + 0) (ss_pi s) 0 (lv_args 0 [.int x0]) [] (ss_e s) (F_X_isGood x0 s) := by
  show sv_V E m_X_isGood (d + 0) (ss_pi s) 0 [(0, .int x0)] [] (ss_e s) _
  unfold F_X_isGood
  refine sv_iload_n (pc := 0) 0 (sv_d k_X_isGood 0 rfl) rfl rfl ?_
  refine sv_if_lt (pc := 1) (tgt := 14) (sv_d k_X_isGood 1 rfl) (by decide) ?_ ?_
  · refine sv_iconst (pc := 14) (v := (0 : Int32)) (sv_d k_X_isGood 7 rfl) (by decide) ?_
    exact sv_ret (pc := 15) (sv_d k_X_isGood 8 rfl) ⟨_, rfl, rfl⟩ rfl
  · refine sv_iload_n (pc := 4) 0 (sv_d k_X_isGood 2 rfl) rfl rfl ?_
    refine sv_bipush (pc := 5) (v := (20 : Int32)) (sv_d k_X_isGood 3 rfl) (by decide) ?_
    refine sv_icmp_ge (pc := 7) (tgt := 14) (sv_d k_X_isGood 4 rfl) (by decide) ?_ ?_
    · refine sv_iconst (pc := 14) (v := (0 : Int32)) (sv_d k_X_isGood 7 rfl) (by decide) ?_
      exact sv_ret (pc := 15) (sv_d k_X_isGood 8 rfl) ⟨_, rfl, rfl⟩ rfl
    · refine sv_iconst (pc := 10) (v := (1 : Int32)) (sv_d k_X_isGood 5 rfl) (by decide) ?_
      refine sv_goto (pc := 11) (tgt := 15) (sv_d k_X_isGood 6 rfl) (by decide) ?_
      exact sv_ret (pc := 15) (sv_d k_X_isGood 8 rfl) ⟨_, rfl, rfl⟩ rfl
/-! X_isDay -/
abbrev m_X_isDay : sv_M := (yX11_isDay, cX11_isDay, 1, (some .boolean))
def t_X_isDay : List (Nat × Instr × Nat) := [(0, .iload_n 0, 1), (1, .ifCond .lt 14, 3), (4, .iload_n 0, 1), (5, .sipush 9999, 3), (8, .if_icmp .gt 7, 3), (11, .iconst 1, 1), (12, .goto 4, 3), (15, .iconst 0, 1), (16, .ireturn, 1)]
theorem k_X_isDay : sv_tk m_X_isDay.2.1 t_X_isDay := by decide +kernel
theorem g_X_isDay : sv_G m_X_isDay 1 := ⟨by decide +kernel, sv_in 623 (by decide +kernel) rfl, sv_in 90 (by decide +kernel) rfl, ⟨by decide, by decide⟩, by decide +kernel, by decide⟩
theorem st_X_isDay : Cond.static m_X_isDay.1 ∈ sv_T := sv_in 622 (by decide +kernel) rfl
def F_X_isDay (x0 : Int32) (s : sv_S) : Option (Int32) :=
  if x0 < 0 then
    some (0 : Int32)
  else
  if (9999 : Int32) < x0 then
    some (0 : Int32)
  else
  some (1 : Int32)
theorem V_X_isDay (E : sv_E) (d : Nat) (x0 : Int32) (s : sv_S) : sv_V E m_X_isDay (d + 0) (ss_pi s) 0 (lv_args 0 [.int x0]) [] (ss_e s) (F_X_isDay x0 s) := by
  show sv_V E m_X_isDay (d + 0) (ss_pi s) 0 [(0, .int x0)] [] (ss_e s) _
  unfold F_X_isDay
  refine sv_iload_n (pc := 0) 0 (sv_d k_X_isDay 0 rfl) rfl rfl ?_
  refine sv_if_lt (pc := 1) (tgt := 15) (sv_d k_X_isDay 1 rfl) (by decide) ?_ ?_
  · refine sv_iconst (pc := 15) (v := (0 : Int32)) (sv_d k_X_isDay 7 rfl) (by decide) ?_
    exact sv_ret (pc := 16) (sv_d k_X_isDay 8 rfl) ⟨_, rfl, rfl⟩ rfl
  · refine sv_iload_n (pc := 4) 0 (sv_d k_X_isDay 2 rfl) rfl rfl ?_
    refine sv_sipush (pc := 5) (v := (9999 : Int32)) (sv_d k_X_isDay 3 rfl) (by decide) ?_
    refine sv_icmp_gt (pc := 8) (tgt := 15) (sv_d k_X_isDay 4 rfl) (by decide) ?_ ?_
    · refine sv_iconst (pc := 15) (v := (0 : Int32)) (sv_d k_X_isDay 7 rfl) (by decide) ?_
      exact sv_ret (pc := 16) (sv_d k_X_isDay 8 rfl) ⟨_, rfl, rfl⟩ rfl
    · refine sv_iconst (pc := 11) (v := (1 : Int32)) (sv_d k_X_isDay 5 rfl) (by decide) ?_
      refine sv_goto (pc := 12) (tgt := 16) (sv_d k_X_isDay 6 rfl) (by decide) ?_
      exact sv_ret (pc := 16) (sv_d k_X_isDay 8 rfl) ⟨_, rfl, rfl⟩ rfl
/-! X_areTons -/
abbrev m_X_areTons : sv_M := (yX11_areTons, cX11_areTons, 1, (some .boolean))
def t_X_areTons : List (Nat × Instr × Nat) := [(0, .iload_n 0, 1), (1, .iconst 1, 1), (2, .if_icmp .lt 13, 3), (5, .iload_n 0, 1), (6, .bipush 99, 2), (8, .if_icmp .gt 7, 3), (11, .iconst 1, 1), (12, .goto 4, 3), (15, .iconst 0, 1), (16, .ireturn, 1)]
theorem k_X_areTons : sv_tk m_X_areTons.2.1 t_X_areTons := by decide +kernel
theorem g_X_areTons : sv_G m_X_areTons 1 := ⟨by decide +kernel, sv_in 833 (by decide +kernel) rfl, sv_in 90 (by decide +kernel) rfl, ⟨by decide, by decide⟩, by decide +kernel, by decide⟩
theorem st_X_areTons : Cond.static m_X_areTons.1 ∈ sv_T := sv_in 832 (by decide +kernel) rfl
def F_X_areTons (x0 : Int32) (s : sv_S) : Option (Int32) :=
  if x0 < (1 : Int32) then
    some (0 : Int32)
  else
  if (99 : Int32) < x0 then
    some (0 : Int32)
  else
  some (1 : Int32)
theorem V_X_areTons (E : sv_E) (d : Nat) (x0 : Int32) (s : sv_S) : sv_V E m_X_areTons (d + 0) (ss_pi s) 0 (lv_args 0 [.int x0]) [] (ss_e s) (F_X_areTons x0 s) := by
  show sv_V E m_X_areTons (d + 0) (ss_pi s) 0 [(0, .int x0)] [] (ss_e s) _
  unfold F_X_areTons
  refine sv_iload_n (pc := 0) 0 (sv_d k_X_areTons 0 rfl) rfl rfl ?_
  refine sv_iconst (pc := 1) (v := (1 : Int32)) (sv_d k_X_areTons 1 rfl) (by decide) ?_
  refine sv_icmp_lt (pc := 2) (tgt := 15) (sv_d k_X_areTons 2 rfl) (by decide) ?_ ?_
  · refine sv_iconst (pc := 15) (v := (0 : Int32)) (sv_d k_X_areTons 8 rfl) (by decide) ?_
    exact sv_ret (pc := 16) (sv_d k_X_areTons 9 rfl) ⟨_, rfl, rfl⟩ rfl
  · refine sv_iload_n (pc := 5) 0 (sv_d k_X_areTons 3 rfl) rfl rfl ?_
    refine sv_bipush (pc := 6) (v := (99 : Int32)) (sv_d k_X_areTons 4 rfl) (by decide) ?_
    refine sv_icmp_gt (pc := 8) (tgt := 15) (sv_d k_X_areTons 5 rfl) (by decide) ?_ ?_
    · refine sv_iconst (pc := 15) (v := (0 : Int32)) (sv_d k_X_areTons 8 rfl) (by decide) ?_
      exact sv_ret (pc := 16) (sv_d k_X_areTons 9 rfl) ⟨_, rfl, rfl⟩ rfl
    · refine sv_iconst (pc := 11) (v := (1 : Int32)) (sv_d k_X_areTons 6 rfl) (by decide) ?_
      refine sv_goto (pc := 12) (tgt := 16) (sv_d k_X_areTons 7 rfl) (by decide) ?_
      exact sv_ret (pc := 16) (sv_d k_X_areTons 9 rfl) ⟨_, rfl, rfl⟩ rfl
/-! X_isPence -/
abbrev m_X_isPence : sv_M := (yX11_isPence, cX11_isPence, 2, (some .boolean))
def t_X_isPence : List (Nat × Instr × Nat) := [(0, .iload_n 1, 1), (1, .ifCond .lt 24, 3), (4, .iload_n 1, 1), (5, .iload_n 0, 1), (6, .iconst 3, 1), (7, .if_icmp .ne 8, 3), (10, .bipush 99, 2), (12, .goto 6, 3), (15, .sipush 9999, 3), (18, .if_icmp .gt 7, 3), (21, .iconst 1, 1), (22, .goto 4, 3), (25, .iconst 0, 1), (26, .ireturn, 1)]
theorem k_X_isPence : sv_tk m_X_isPence.2.1 t_X_isPence := by decide +kernel
theorem g_X_isPence : sv_G m_X_isPence 2 := ⟨by decide +kernel, sv_in 810 (by decide +kernel) rfl, sv_in 90 (by decide +kernel) rfl, ⟨by decide, by decide⟩, by decide +kernel, by decide⟩
theorem st_X_isPence : Cond.static m_X_isPence.1 ∈ sv_T := sv_in 809 (by decide +kernel) rfl
def F_X_isPence (x0 : Int32) (x1 : Int32) (s : sv_S) : Option (Int32) :=
  if x1 < 0 then
    some (0 : Int32)
  else
  if x0 = (3 : Int32) then
    if (99 : Int32) < x1 then
      some (0 : Int32)
    else
    some (1 : Int32)
  else
  if (9999 : Int32) < x1 then
    some (0 : Int32)
  else
  some (1 : Int32)
theorem V_X_isPence (E : sv_E) (d : Nat) (x0 : Int32) (x1 : Int32) (s : sv_S) : sv_V E m_X_isPence (d + 0) (ss_pi s) 0 (lv_args 0 [.int x0, .int x1]) [] (ss_e s) (F_X_isPence x0 x1 s) := by
  show sv_V E m_X_isPence (d + 0) (ss_pi s) 0 [(0, .int x0), (1, .int x1)] [] (ss_e s) _
  unfold F_X_isPence
  refine sv_iload_n (pc := 0) 1 (sv_d k_X_isPence 0 rfl) rfl rfl ?_
  refine sv_if_lt (pc := 1) (tgt := 25) (sv_d k_X_isPence 1 rfl) (by decide) ?_ ?_
  · refine sv_iconst (pc := 25) (v := (0 : Int32)) (sv_d k_X_isPence 12 rfl) (by decide) ?_
    exact sv_ret (pc := 26) (sv_d k_X_isPence 13 rfl) ⟨_, rfl, rfl⟩ rfl
  · refine sv_iload_n (pc := 4) 1 (sv_d k_X_isPence 2 rfl) rfl rfl ?_
    refine sv_iload_n (pc := 5) 0 (sv_d k_X_isPence 3 rfl) rfl rfl ?_
    refine sv_iconst (pc := 6) (v := (3 : Int32)) (sv_d k_X_isPence 4 rfl) (by decide) ?_
    refine sv_icmp_ne (pc := 7) (tgt := 15) (sv_d k_X_isPence 5 rfl) (by decide) ?_ ?_
    · refine sv_sipush (pc := 15) (v := (9999 : Int32)) (sv_d k_X_isPence 8 rfl) (by decide) ?_
      refine sv_icmp_gt (pc := 18) (tgt := 25) (sv_d k_X_isPence 9 rfl) (by decide) ?_ ?_
      · refine sv_iconst (pc := 25) (v := (0 : Int32)) (sv_d k_X_isPence 12 rfl) (by decide) ?_
        exact sv_ret (pc := 26) (sv_d k_X_isPence 13 rfl) ⟨_, rfl, rfl⟩ rfl
      · refine sv_iconst (pc := 21) (v := (1 : Int32)) (sv_d k_X_isPence 10 rfl) (by decide) ?_
        refine sv_goto (pc := 22) (tgt := 26) (sv_d k_X_isPence 11 rfl) (by decide) ?_
        exact sv_ret (pc := 26) (sv_d k_X_isPence 13 rfl) ⟨_, rfl, rfl⟩ rfl
    · refine sv_bipush (pc := 10) (v := (99 : Int32)) (sv_d k_X_isPence 6 rfl) (by decide) ?_
      refine sv_goto (pc := 12) (tgt := 18) (sv_d k_X_isPence 7 rfl) (by decide) ?_
      refine sv_icmp_gt (pc := 18) (tgt := 25) (sv_d k_X_isPence 9 rfl) (by decide) ?_ ?_
      · refine sv_iconst (pc := 25) (v := (0 : Int32)) (sv_d k_X_isPence 12 rfl) (by decide) ?_
        exact sv_ret (pc := 26) (sv_d k_X_isPence 13 rfl) ⟨_, rfl, rfl⟩ rfl
      · refine sv_iconst (pc := 21) (v := (1 : Int32)) (sv_d k_X_isPence 10 rfl) (by decide) ?_
        refine sv_goto (pc := 22) (tgt := 26) (sv_d k_X_isPence 11 rfl) (by decide) ?_
        exact sv_ret (pc := 26) (sv_d k_X_isPence 13 rfl) ⟨_, rfl, rfl⟩ rfl
/-! X_isTape -/
abbrev m_X_isTape : sv_M := (yX11_isTape, cX11_isTape, 1, (some .boolean))
def t_X_isTape : List (Nat × Instr × Nat) := [(0, .iload_n 0, 1), (1, .ifCond .lt 13, 3), (4, .iload_n 0, 1), (5, .bipush 6, 2), (7, .if_icmp .ge 7, 3), (10, .iconst 1, 1), (11, .goto 4, 3), (14, .iconst 0, 1), (15, .ireturn, 1)]
theorem k_X_isTape : sv_tk m_X_isTape.2.1 t_X_isTape := by decide +kernel
theorem g_X_isTape : sv_G m_X_isTape 1 := ⟨by decide +kernel, sv_in 954 (by decide +kernel) rfl, sv_in 90 (by decide +kernel) rfl, ⟨by decide, by decide⟩, by decide +kernel, by decide⟩
theorem st_X_isTape : Cond.static m_X_isTape.1 ∈ sv_T := sv_in 953 (by decide +kernel) rfl
def F_X_isTape (x0 : Int32) (s : sv_S) : Option (Int32) :=
  if x0 < 0 then
    some (0 : Int32)
  else
  if (6 : Int32) ≤ x0 then
    some (0 : Int32)
  else
  some (1 : Int32)
theorem V_X_isTape (E : sv_E) (d : Nat) (x0 : Int32) (s : sv_S) : sv_V E m_X_isTape (d + 0) (ss_pi s) 0 (lv_args 0 [.int x0]) [] (ss_e s) (F_X_isTape x0 s) := by
  show sv_V E m_X_isTape (d + 0) (ss_pi s) 0 [(0, .int x0)] [] (ss_e s) _
  unfold F_X_isTape
  refine sv_iload_n (pc := 0) 0 (sv_d k_X_isTape 0 rfl) rfl rfl ?_
  refine sv_if_lt (pc := 1) (tgt := 14) (sv_d k_X_isTape 1 rfl) (by decide) ?_ ?_
  · refine sv_iconst (pc := 14) (v := (0 : Int32)) (sv_d k_X_isTape 7 rfl) (by decide) ?_
    exact sv_ret (pc := 15) (sv_d k_X_isTape 8 rfl) ⟨_, rfl, rfl⟩ rfl
  · refine sv_iload_n (pc := 4) 0 (sv_d k_X_isTape 2 rfl) rfl rfl ?_
    refine sv_bipush (pc := 5) (v := (6 : Int32)) (sv_d k_X_isTape 3 rfl) (by decide) ?_
    refine sv_icmp_ge (pc := 7) (tgt := 14) (sv_d k_X_isTape 4 rfl) (by decide) ?_ ?_
    · refine sv_iconst (pc := 14) (v := (0 : Int32)) (sv_d k_X_isTape 7 rfl) (by decide) ?_
      exact sv_ret (pc := 15) (sv_d k_X_isTape 8 rfl) ⟨_, rfl, rfl⟩ rfl
    · refine sv_iconst (pc := 10) (v := (1 : Int32)) (sv_d k_X_isTape 5 rfl) (by decide) ?_
      refine sv_goto (pc := 11) (tgt := 15) (sv_d k_X_isTape 6 rfl) (by decide) ?_
      exact sv_ret (pc := 15) (sv_d k_X_isTape 8 rfl) ⟨_, rfl, rfl⟩ rfl
/-! X_soonest -/
abbrev m_X_soonest : sv_M := (yX11_soonest, cX11_soonest, 2, (some .int))
def t_X_soonest : List (Nat × Instr × Nat) := [(0, .aload_n 0, 1), (1, .getfield 86, 3), (4, .aload_n 0, 1), (5, .getfield 28, 3), (8, .iload_n 1, 1), (9, .aload_n 0, 1), (10, .getfield 86, 3), (13, .iconst 3, 1), (14, .invokevirtual 149, 3), (17, .iadd, 1), (18, .ireturn, 1)]
theorem k_X_soonest : sv_tk m_X_soonest.2.1 t_X_soonest := by decide +kernel
theorem g_X_soonest : sv_G m_X_soonest 1 := ⟨by decide +kernel, sv_in 818 (by decide +kernel) rfl, sv_in 90 (by decide +kernel) rfl, ⟨by decide, by decide⟩, by decide +kernel, by decide⟩
theorem in_X_soonest : Cond.instanceMethod m_X_soonest.1 ∈ sv_T := sv_in 817 (by decide +kernel) rfl
theorem se_X_soonest : Cond.selects m_X_soonest.1.cls m_X_soonest.1 m_X_soonest.1 ∈ sv_T := sv_in 15 (by decide +kernel) rfl
def F_X_soonest (x1 : Int32) (s : sv_S) : Option (Int32 × sv_S) :=
  (F_Ls_value x1 (s.1 64 9) (3 : Int32) s).bind fun r1 =>
  some ((s.1 64 9) + r1.1, r1.2)
theorem V_X_soonest (E : sv_E) (d : Nat) (x1 : Int32) (s : sv_S) : sv_V E m_X_soonest (d + 2) ss_i 0 (lv_args 0 [sv_r E 64, .int x1]) [] (ss_e s) (F_X_soonest x1 s) := by
  show sv_V E m_X_soonest (d + 2) ss_i 0 [(0, sv_r E 64), (1, .int x1)] [] (ss_e s) _
  unfold F_X_soonest
  refine sv_aload_n (pc := 0) 0 (sv_d k_X_soonest 0 rfl) rfl rfl ?_
  refine sv_getf (pc := 1) 9 (sv_d k_X_soonest 1 rfl) cf11 (by decide) w525 kd64 (ss_lt (by decide)) rfl ?_
  refine sv_aload_n (pc := 4) 0 (sv_d k_X_soonest 2 rfl) rfl rfl ?_
  refine sv_getf (pc := 5) 2 (sv_d k_X_soonest 3 rfl) cf11 (by decide) w518 kd64 (ss_lt (by decide)) (lr_64_2 E _) ?_
  refine sv_iload_n (pc := 8) 1 (sv_d k_X_soonest 4 rfl) rfl rfl ?_
  refine sv_aload_n (pc := 9) 0 (sv_d k_X_soonest 5 rfl) rfl rfl ?_
  refine sv_getf (pc := 10) 9 (sv_d k_X_soonest 6 rfl) cf11 (by decide) w525 kd64 (ss_lt (by decide)) rfl ?_
  refine sv_iconst (pc := 13) (v := (3 : Int32)) (sv_d k_X_soonest 7 rfl) (by decide) ?_
  refine sv_callV (pc := 14) (ψ := ss_i) (As := [.int x1, .int (s.1 64 9), .int (3 : Int32)]) (rest := [.int (s.1 64 9)]) (c := 81) (sv_d k_X_soonest 8 rfl) g_Ls_value w796 in_Ls_value se_Ls_value cf4 kd81 (ss_lt (by decide)) rfl (Nat.le_of_ble_eq_true rfl) (V_Ls_value E (d + 0) x1 (s.1 64 9) (3 : Int32) s) (Nat.le_of_ble_eq_true rfl) rfl (fun r1 => ?_)
  show sv_V E _ _ _ 17 _ [.int r1.1, .int (s.1 64 9)] (ss_e r1.2) _
  refine sv_iadd (pc := 17) (sv_d k_X_soonest 9 rfl) ?_
  exact sv_ret (pc := 18) (sv_d k_X_soonest 10 rfl) ⟨_, rfl, rfl⟩ rfl
/-! X_truckRefusal -/
abbrev m_X_truckRefusal : sv_M := (yX11_truckRefusal, cX11_truckRefusal, 6, (some .int))
def t_X_truckRefusal : List (Nat × Instr × Nat) := [(0, .aload_n 0, 1), (1, .getfield 37, 3), (4, .iload_n 1, 1), (5, .invokevirtual 183, 3), (8, .ifCond .eq 10, 3), (11, .iload_n 2, 1), (12, .invokestatic 168, 3), (15, .ifCond .ne 5, 3), (18, .iconst (-1), 1), (19, .ireturn, 1), (20, .iload_n 3, 1), (21, .invokestatic 171, 3), (24, .ifCond .eq 30, 3), (27, .iload 4, 2), (29, .ifCond .lt 25, 3), (32, .iload 4, 2), (34, .ldc_w 388, 3), (37, .if_icmp .gt 17, 3), (40, .iload 5, 2), (42, .ifCond .lt 12, 3), (45, .iload 5, 2), (47, .aload_n 0, 1), (48, .getfield 86, 3), (51, .if_icmp .le 6, 3), (54, .bipush (-2), 2), (56, .ireturn, 1), (57, .iconst 0, 1), (58, .ireturn, 1)]
theorem k_X_truckRefusal : sv_tk m_X_truckRefusal.2.1 t_X_truckRefusal := by decide +kernel
theorem g_X_truckRefusal : sv_G m_X_truckRefusal 5 := ⟨by decide +kernel, sv_in 938 (by decide +kernel) rfl, sv_in 90 (by decide +kernel) rfl, ⟨by decide, by decide⟩, by decide +kernel, by decide⟩
theorem in_X_truckRefusal : Cond.instanceMethod m_X_truckRefusal.1 ∈ sv_T := sv_in 937 (by decide +kernel) rfl
theorem se_X_truckRefusal : Cond.selects m_X_truckRefusal.1.cls m_X_truckRefusal.1 m_X_truckRefusal.1 ∈ sv_T := sv_in 18 (by decide +kernel) rfl
def F_X_truckRefusal (x1 : Int32) (x2 : Int32) (x3 : Int32) (x4 : Int32) (x5 : Int32) (s : sv_S) : Option (Int32) :=
  (F_Rs_has x1 s).bind fun r1 =>
  if r1 = 0 then
    some (-1 : Int32)
  else
  (F_X_isGood x2 s).bind fun r2 =>
  if r2 = 0 then
    some (-1 : Int32)
  else
  (F_X_areTons x3 s).bind fun r3 =>
  if r3 = 0 then
    some (-2 : Int32)
  else
  if x4 < 0 then
    some (-2 : Int32)
  else
  if (99999 : Int32) < x4 then
    some (-2 : Int32)
  else
  if x5 < 0 then
    some (-2 : Int32)
  else
  if x5 ≤ (s.1 64 9) then
    some (0 : Int32)
  else
  some (-2 : Int32)
theorem V_X_truckRefusal (E : sv_E) (d : Nat) (x1 : Int32) (x2 : Int32) (x3 : Int32) (x4 : Int32) (x5 : Int32) (s : sv_S) : sv_V E m_X_truckRefusal (d + 1) (ss_pi s) 0 (lv_args 0 [sv_r E 64, .int x1, .int x2, .int x3, .int x4, .int x5]) [] (ss_e s) (F_X_truckRefusal x1 x2 x3 x4 x5 s) := by
  show sv_V E m_X_truckRefusal (d + 1) (ss_pi s) 0 [(0, sv_r E 64), (1, .int x1), (2, .int x2), (3, .int x3), (4, .int x4), (5, .int x5)] [] (ss_e s) _
  unfold F_X_truckRefusal
  refine sv_aload_n (pc := 0) 0 (sv_d k_X_truckRefusal 0 rfl) rfl rfl ?_
  refine sv_getf (pc := 1) 3 (sv_d k_X_truckRefusal 1 rfl) cf11 (by decide) w519 kd64 (ss_lt (by decide)) (lr_64_3 E _) ?_
  refine sv_iload_n (pc := 4) 1 (sv_d k_X_truckRefusal 2 rfl) rfl rfl ?_
  refine sv_callV (pc := 5) (ψ := (ss_pi s)) (As := [.int x1]) (rest := []) (c := 88) (sv_d k_X_truckRefusal 3 rfl) g_Rs_has w842 in_Rs_has se_Rs_has cf6 kd88 (ss_lt (by decide)) rfl (Nat.le_of_ble_eq_true rfl) (V_Rs_has E (d + 0) x1 s) (Nat.le_of_ble_eq_true rfl) rfl (fun r1 => ?_)
  show sv_V E _ _ _ 8 _ [.int r1] (ss_e s) _
  refine sv_if_eq (pc := 8) (tgt := 18) (sv_d k_X_truckRefusal 4 rfl) (by decide) ?_ ?_
  · refine sv_iconst (pc := 18) (v := (-1 : Int32)) (sv_d k_X_truckRefusal 8 rfl) (by decide) ?_
    exact sv_ret (pc := 19) (sv_d k_X_truckRefusal 9 rfl) ⟨_, rfl, rfl⟩ rfl
  · refine sv_iload_n (pc := 11) 2 (sv_d k_X_truckRefusal 5 rfl) rfl rfl ?_
    refine sv_callS (pc := 12) (ψ := (ss_pi s)) (As := [.int x2]) (rest := []) (sv_d k_X_truckRefusal 6 rfl) g_X_isGood w828 st_X_isGood rfl (Nat.le_of_ble_eq_true rfl) (V_X_isGood E (d + 0) x2 s) (Nat.le_of_ble_eq_true rfl) rfl (fun r2 => ?_)
    show sv_V E _ _ _ 15 _ [.int r2] (ss_e s) _
    refine sv_if_ne (pc := 15) (tgt := 20) (sv_d k_X_truckRefusal 7 rfl) (by decide) ?_ ?_
    · refine sv_iload_n (pc := 20) 3 (sv_d k_X_truckRefusal 10 rfl) rfl rfl ?_
      refine sv_callS (pc := 21) (ψ := (ss_pi s)) (As := [.int x3]) (rest := []) (sv_d k_X_truckRefusal 11 rfl) g_X_areTons w831 st_X_areTons rfl (Nat.le_of_ble_eq_true rfl) (V_X_areTons E (d + 0) x3 s) (Nat.le_of_ble_eq_true rfl) rfl (fun r3 => ?_)
      show sv_V E _ _ _ 24 _ [.int r3] (ss_e s) _
      refine sv_if_eq (pc := 24) (tgt := 54) (sv_d k_X_truckRefusal 12 rfl) (by decide) ?_ ?_
      · refine sv_bipush (pc := 54) (v := (-2 : Int32)) (sv_d k_X_truckRefusal 24 rfl) (by decide) ?_
        exact sv_ret (pc := 56) (sv_d k_X_truckRefusal 25 rfl) ⟨_, rfl, rfl⟩ rfl
      · refine sv_iload (pc := 27) 4 (sv_d k_X_truckRefusal 13 rfl) rfl ?_
        refine sv_if_lt (pc := 29) (tgt := 54) (sv_d k_X_truckRefusal 14 rfl) (by decide) ?_ ?_
        · refine sv_bipush (pc := 54) (v := (-2 : Int32)) (sv_d k_X_truckRefusal 24 rfl) (by decide) ?_
          exact sv_ret (pc := 56) (sv_d k_X_truckRefusal 25 rfl) ⟨_, rfl, rfl⟩ rfl
        · refine sv_iload (pc := 32) 4 (sv_d k_X_truckRefusal 15 rfl) rfl ?_
          refine sv_ldcw (pc := 34) (v := (99999 : Int32)) w939 (sv_d k_X_truckRefusal 16 rfl) ?_
          refine sv_icmp_gt (pc := 37) (tgt := 54) (sv_d k_X_truckRefusal 17 rfl) (by decide) ?_ ?_
          · refine sv_bipush (pc := 54) (v := (-2 : Int32)) (sv_d k_X_truckRefusal 24 rfl) (by decide) ?_
            exact sv_ret (pc := 56) (sv_d k_X_truckRefusal 25 rfl) ⟨_, rfl, rfl⟩ rfl
          · refine sv_iload (pc := 40) 5 (sv_d k_X_truckRefusal 18 rfl) rfl ?_
            refine sv_if_lt (pc := 42) (tgt := 54) (sv_d k_X_truckRefusal 19 rfl) (by decide) ?_ ?_
            · refine sv_bipush (pc := 54) (v := (-2 : Int32)) (sv_d k_X_truckRefusal 24 rfl) (by decide) ?_
              exact sv_ret (pc := 56) (sv_d k_X_truckRefusal 25 rfl) ⟨_, rfl, rfl⟩ rfl
            · refine sv_iload (pc := 45) 5 (sv_d k_X_truckRefusal 20 rfl) rfl ?_
              refine sv_aload_n (pc := 47) 0 (sv_d k_X_truckRefusal 21 rfl) rfl rfl ?_
              refine sv_getf (pc := 48) 9 (sv_d k_X_truckRefusal 22 rfl) cf11 (by decide) w525 kd64 (ss_lt (by decide)) rfl ?_
              refine sv_icmp_le (pc := 51) (tgt := 57) (sv_d k_X_truckRefusal 23 rfl) (by decide) ?_ ?_
              · refine sv_iconst (pc := 57) (v := (0 : Int32)) (sv_d k_X_truckRefusal 26 rfl) (by decide) ?_
                exact sv_ret (pc := 58) (sv_d k_X_truckRefusal 27 rfl) ⟨_, rfl, rfl⟩ rfl
              · refine sv_bipush (pc := 54) (v := (-2 : Int32)) (sv_d k_X_truckRefusal 24 rfl) (by decide) ?_
                exact sv_ret (pc := 56) (sv_d k_X_truckRefusal 25 rfl) ⟨_, rfl, rfl⟩ rfl
    · refine sv_iconst (pc := 18) (v := (-1 : Int32)) (sv_d k_X_truckRefusal 8 rfl) (by decide) ?_
      exact sv_ret (pc := 19) (sv_d k_X_truckRefusal 9 rfl) ⟨_, rfl, rfl⟩ rfl
/-! X_bookRow -/
abbrev m_X_bookRow : sv_M := (yX11_bookRow, cX11_bookRow, 11, (some .int))
def t_X_bookRow : List (Nat × Instr × Nat) := [(0, .lload_n 2, 1), (1, .lconst 0, 1), (2, .lcmp, 1), (3, .ifCond .lt 22, 3), (6, .lload_n 2, 1), (7, .ldc2_w 254, 3), (10, .ladd, 1), (11, .aload_n 0, 1), (12, .getfield 78, 3), (15, .getfield 389, 3), (18, .iload_n 1, 1), (19, .iaload, 1), (20, .i2l, 1), (21, .lcmp, 1), (22, .ifCond .le 5, 3), (25, .iconst 1, 1), (26, .ireturn, 1), (27, .aload_n 0, 1), (28, .getfield 78, 3), (31, .getfield 374, 3), (34, .iload_n 1, 1), (35, .aaload, 1), (36, .astore 4, 2), (38, .lload_n 2, 1), (39, .l2i, 1), (40, .istore 5, 2), (42, .aload 4, 2), (44, .iload 5, 2), (46, .laload, 1), (47, .l2i, 1), (48, .istore 6, 2), (50, .aload 4, 2), (52, .iload 5, 2), (54, .iconst 1, 1), (55, .iadd, 1), (56, .laload, 1), (57, .l2i, 1), (58, .istore 7, 2), (60, .aload 4, 2), (62, .iload 5, 2), (64, .iconst 2, 1), (65, .iadd, 1), (66, .laload, 1), (67, .l2i, 1), (68, .istore 8, 2), (70, .aload 4, 2), (72, .iload 5, 2), (74, .iconst 3, 1), (75, .iadd, 1), (76, .laload, 1), (77, .l2i, 1), (78, .istore 9, 2), (80, .aload 4, 2), (82, .iload 5, 2), (84, .iconst 4, 1), (85, .iadd, 1), (86, .laload, 1), (87, .l2i, 1), (88, .istore 10, 2), (90, .aload_n 0, 1), (91, .iload 6, 2), (93, .iload 7, 2), (95, .iload 8, 2), (97, .iload 9, 2), (99, .iload 10, 2), (101, .invokevirtual 240, 3), (104, .ifCond .eq 5, 3), (107, .iconst 2, 1), (108, .ireturn, 1), (109, .aload_n 0, 1), (110, .getfield 46, 3), (113, .invokevirtual 244, 3), (116, .ifCond .eq 5, 3), (119, .iconst 3, 1), (120, .ireturn, 1), (121, .aload_n 0, 1), (122, .getfield 46, 3), (125, .iload 6, 2), (127, .iload 7, 2), (129, .iload 8, 2), (131, .iload 9, 2), (133, .iload 10, 2), (135, .invokevirtual 245, 3), (138, .pop, 1), (139, .iconst 0, 1), (140, .ireturn, 1)]
theorem k_X_bookRow : sv_tk m_X_bookRow.2.1 t_X_bookRow := by decide +kernel
theorem g_X_bookRow : sv_G m_X_bookRow 2 := ⟨by decide +kernel, sv_in 959 (by decide +kernel) rfl, sv_in 90 (by decide +kernel) rfl, ⟨by decide, by decide⟩, by decide +kernel, by decide⟩
theorem in_X_bookRow : Cond.instanceMethod m_X_bookRow.1 ∈ sv_T := sv_in 958 (by decide +kernel) rfl
theorem se_X_bookRow : Cond.selects m_X_bookRow.1.cls m_X_bookRow.1 m_X_bookRow.1 ∈ sv_T := sv_in 19 (by decide +kernel) rfl
def F_X_bookRow (x1 : Int32) (y2 : Int64) (s : sv_S) : Option (Int32 × sv_S) :=
  if (lg_cmp y2 (0 : Int64)) < 0 then
    some ((1 : Int32), s)
  else
  if sv_ib x1 6 = true then
    if (lg_cmp (y2 + (5 : Int64)) ((s.1 179 x1.toNatClampNeg).toInt64)) ≤ 0 then
      if sv_ib x1 6 = true then
        if sv_ib y2.toInt32 (ss_N s.2.2.2.1 (181 + x1.toNatClampNeg)) = true then
          ss_let ((s.2.1 (181 + x1.toNatClampNeg) y2.toInt32.toNatClampNeg).toInt32) fun v2 =>
          if sv_ib (y2.toInt32 + (1 : Int32)) (ss_N s.2.2.2.1 (181 + x1.toNatClampNeg)) = true then
            ss_let ((s.2.1 (181 + x1.toNatClampNeg) (y2.toInt32 + (1 : Int32)).toNatClampNeg).toInt32) fun v3 =>
            if sv_ib (y2.toInt32 + (2 : Int32)) (ss_N s.2.2.2.1 (181 + x1.toNatClampNeg)) = true then
              ss_let ((s.2.1 (181 + x1.toNatClampNeg) (y2.toInt32 + (2 : Int32)).toNatClampNeg).toInt32) fun v4 =>
              if sv_ib (y2.toInt32 + (3 : Int32)) (ss_N s.2.2.2.1 (181 + x1.toNatClampNeg)) = true then
                ss_let ((s.2.1 (181 + x1.toNatClampNeg) (y2.toInt32 + (3 : Int32)).toNatClampNeg).toInt32) fun v5 =>
                if sv_ib (y2.toInt32 + (4 : Int32)) (ss_N s.2.2.2.1 (181 + x1.toNatClampNeg)) = true then
                  ss_let ((s.2.1 (181 + x1.toNatClampNeg) (y2.toInt32 + (4 : Int32)).toNatClampNeg).toInt32) fun v6 =>
                  (F_X_truckRefusal v2 v3 v4 v5 v6 s).bind fun r7 =>
                  if r7 = 0 then
                    (F_Tr_areFull s).bind fun r8 =>
                    if r8 = 0 then
                      (F_Tr_add v2 v3 v4 v5 v6 s).bind fun r9 =>
                      some ((0 : Int32), r9.2)
                    else
                    some ((3 : Int32), s)
                  else
                  some ((2 : Int32), s)
                else none
              else none
            else none
          else none
        else none
      else none
    else
    some ((1 : Int32), s)
  else none
theorem V_X_bookRow (E : sv_E) (d : Nat) (x1 : Int32) (y2 : Int64) (s : sv_S) : sv_V E m_X_bookRow (d + 2) ss_i 0 (lv_args 0 [sv_r E 64, .int x1, .long y2]) [] (ss_e s) (F_X_bookRow x1 y2 s) := by
  show sv_V E m_X_bookRow (d + 2) ss_i 0 [(0, sv_r E 64), (1, .int x1), (2, .long y2)] [] (ss_e s) _
  unfold F_X_bookRow
  refine sv_lload_n (pc := 0) 2 (sv_d k_X_bookRow 0 rfl) rfl rfl ?_
  refine sv_lconst (pc := 1) (v := (0 : Int64)) (sv_d k_X_bookRow 1 rfl) (by decide) ?_
  refine sv_lcmp (pc := 2) (sv_d k_X_bookRow 2 rfl) ?_
  refine sv_if_lt (pc := 3) (tgt := 25) (sv_d k_X_bookRow 3 rfl) (by decide) ?_ ?_
  · refine sv_iconst (pc := 25) (v := (1 : Int32)) (sv_d k_X_bookRow 15 rfl) (by decide) ?_
    exact sv_ret (pc := 26) (sv_d k_X_bookRow 16 rfl) ⟨_, rfl, rfl⟩ rfl
  · refine sv_lload_n (pc := 6) 2 (sv_d k_X_bookRow 4 rfl) rfl rfl ?_
    refine sv_ldc2 (pc := 7) (v := (5 : Int64)) w955 (sv_d k_X_bookRow 5 rfl) ?_
    refine sv_ladd (pc := 10) (sv_d k_X_bookRow 6 rfl) ?_
    refine sv_aload_n (pc := 11) 0 (sv_d k_X_bookRow 7 rfl) rfl rfl ?_
    refine sv_getf (pc := 12) 8 (sv_d k_X_bookRow 8 rfl) cf11 (by decide) w524 kd64 (ss_lt (by decide)) (lr_64_8 E _) ?_
    refine sv_getN (pc := 15) 1 (sv_d k_X_bookRow 9 rfl) cf8 (by decide) w505 kd177 (ss_lt (by decide)) (lr_177_1 E _) ?_
    refine sv_iload_n (pc := 18) 1 (sv_d k_X_bookRow 10 rfl) rfl rfl ?_
    refine ss_iald (pc := 19) (n := 6) (sv_d k_X_bookRow 11 rfl) kd179 (ss_lt (by decide)) rfl ?_
    refine sv_i2l (pc := 20) (sv_d k_X_bookRow 12 rfl) ?_
    refine sv_lcmp (pc := 21) (sv_d k_X_bookRow 13 rfl) ?_
    refine sv_if_le (pc := 22) (tgt := 27) (sv_d k_X_bookRow 14 rfl) (by decide) ?_ ?_
    · refine sv_aload_n (pc := 27) 0 (sv_d k_X_bookRow 17 rfl) rfl rfl ?_
      refine sv_getf (pc := 28) 8 (sv_d k_X_bookRow 18 rfl) cf11 (by decide) w524 kd64 (ss_lt (by decide)) (lr_64_8 E _) ?_
      refine sv_getN (pc := 31) 2 (sv_d k_X_bookRow 19 rfl) cf8 (by decide) w507 kd177 (ss_lt (by decide)) (lr_177_2 E _) ?_
      refine sv_iload_n (pc := 34) 1 (sv_d k_X_bookRow 20 rfl) rfl rfl ?_
      refine ss_aaldT (pc := 35) (n := 6) (b := 181) (sv_d k_X_bookRow 21 rfl) kd180 (by decide) (by decide) rfl (ss_lt (by decide)) rfl ss_row180 (by decide) (fun _ => rfl) (fun bb1 => ?_)
      refine sv_astore (pc := 36) (lv' := [(4, sv_r E (181 + x1.toNatClampNeg)), (0, sv_r E 64), (1, .int x1), (2, .long y2)]) (sv_d k_X_bookRow 22 rfl) (by decide) rfl ?_
      refine sv_lload_n (pc := 38) 3 (sv_d k_X_bookRow 23 rfl) rfl rfl ?_
      refine sv_l2i (pc := 39) (sv_d k_X_bookRow 24 rfl) ?_
      refine sv_istore (pc := 40) (lv' := [(5, .int y2.toInt32), (4, sv_r E (181 + x1.toNatClampNeg)), (0, sv_r E 64), (1, .int x1), (2, .long y2)]) (sv_d k_X_bookRow 25 rfl) (by decide) rfl ?_
      refine sv_aload (pc := 42) 1 (sv_d k_X_bookRow 26 rfl) rfl ?_
      refine sv_iload (pc := 44) 0 (sv_d k_X_bookRow 27 rfl) rfl ?_
      refine ss_lald (pc := 46) (n := (ss_N s.2.2.2.1 (181 + x1.toNatClampNeg))) (sv_d k_X_bookRow 28 rfl) (ss_kr180 _ bb1) (ss_ltr (by decide : 181 + 6 ≤ 243) bb1) rfl ?_
      refine sv_l2i (pc := 47) (sv_d k_X_bookRow 29 rfl) ?_
      refine ss_top (fun v2 e_v2 => ?_)
      refine sv_istore (pc := 48) (lv' := [(6, .int v2), (5, .int y2.toInt32), (4, sv_r E (181 + x1.toNatClampNeg)), (0, sv_r E 64), (1, .int x1), (2, .long y2)]) (sv_d k_X_bookRow 30 rfl) (by decide) rfl ?_
      refine sv_aload (pc := 50) 2 (sv_d k_X_bookRow 31 rfl) rfl ?_
      refine sv_iload (pc := 52) 1 (sv_d k_X_bookRow 32 rfl) rfl ?_
      refine sv_iconst (pc := 54) (v := (1 : Int32)) (sv_d k_X_bookRow 33 rfl) (by decide) ?_
      refine sv_iadd (pc := 55) (sv_d k_X_bookRow 34 rfl) ?_
      refine ss_lald (pc := 56) (n := (ss_N s.2.2.2.1 (181 + x1.toNatClampNeg))) (sv_d k_X_bookRow 35 rfl) (ss_kr180 _ bb1) (ss_ltr (by decide : 181 + 6 ≤ 243) bb1) rfl ?_
      refine sv_l2i (pc := 57) (sv_d k_X_bookRow 36 rfl) ?_
      refine ss_top (fun v3 e_v3 => ?_)
      refine sv_istore (pc := 58) (lv' := [(7, .int v3), (6, .int v2), (5, .int y2.toInt32), (4, sv_r E (181 + x1.toNatClampNeg)), (0, sv_r E 64), (1, .int x1), (2, .long y2)]) (sv_d k_X_bookRow 37 rfl) (by decide) rfl ?_
      refine sv_aload (pc := 60) 3 (sv_d k_X_bookRow 38 rfl) rfl ?_
      refine sv_iload (pc := 62) 2 (sv_d k_X_bookRow 39 rfl) rfl ?_
      refine sv_iconst (pc := 64) (v := (2 : Int32)) (sv_d k_X_bookRow 40 rfl) (by decide) ?_
      refine sv_iadd (pc := 65) (sv_d k_X_bookRow 41 rfl) ?_
      refine ss_lald (pc := 66) (n := (ss_N s.2.2.2.1 (181 + x1.toNatClampNeg))) (sv_d k_X_bookRow 42 rfl) (ss_kr180 _ bb1) (ss_ltr (by decide : 181 + 6 ≤ 243) bb1) rfl ?_
      refine sv_l2i (pc := 67) (sv_d k_X_bookRow 43 rfl) ?_
      refine ss_top (fun v4 e_v4 => ?_)
      refine sv_istore (pc := 68) (lv' := [(8, .int v4), (7, .int v3), (6, .int v2), (5, .int y2.toInt32), (4, sv_r E (181 + x1.toNatClampNeg)), (0, sv_r E 64), (1, .int x1), (2, .long y2)]) (sv_d k_X_bookRow 44 rfl) (by decide) rfl ?_
      refine sv_aload (pc := 70) 4 (sv_d k_X_bookRow 45 rfl) rfl ?_
      refine sv_iload (pc := 72) 3 (sv_d k_X_bookRow 46 rfl) rfl ?_
      refine sv_iconst (pc := 74) (v := (3 : Int32)) (sv_d k_X_bookRow 47 rfl) (by decide) ?_
      refine sv_iadd (pc := 75) (sv_d k_X_bookRow 48 rfl) ?_
      refine ss_lald (pc := 76) (n := (ss_N s.2.2.2.1 (181 + x1.toNatClampNeg))) (sv_d k_X_bookRow 49 rfl) (ss_kr180 _ bb1) (ss_ltr (by decide : 181 + 6 ≤ 243) bb1) rfl ?_
      refine sv_l2i (pc := 77) (sv_d k_X_bookRow 50 rfl) ?_
      refine ss_top (fun v5 e_v5 => ?_)
      refine sv_istore (pc := 78) (lv' := [(9, .int v5), (8, .int v4), (7, .int v3), (6, .int v2), (5, .int y2.toInt32), (4, sv_r E (181 + x1.toNatClampNeg)), (0, sv_r E 64), (1, .int x1), (2, .long y2)]) (sv_d k_X_bookRow 51 rfl) (by decide) rfl ?_
      refine sv_aload (pc := 80) 5 (sv_d k_X_bookRow 52 rfl) rfl ?_
      refine sv_iload (pc := 82) 4 (sv_d k_X_bookRow 53 rfl) rfl ?_
      refine sv_iconst (pc := 84) (v := (4 : Int32)) (sv_d k_X_bookRow 54 rfl) (by decide) ?_
      refine sv_iadd (pc := 85) (sv_d k_X_bookRow 55 rfl) ?_
      refine ss_lald (pc := 86) (n := (ss_N s.2.2.2.1 (181 + x1.toNatClampNeg))) (sv_d k_X_bookRow 56 rfl) (ss_kr180 _ bb1) (ss_ltr (by decide : 181 + 6 ≤ 243) bb1) rfl ?_
      refine sv_l2i (pc := 87) (sv_d k_X_bookRow 57 rfl) ?_
      refine ss_top (fun v6 e_v6 => ?_)
      refine sv_istore (pc := 88) (lv' := [(10, .int v6), (9, .int v5), (8, .int v4), (7, .int v3), (6, .int v2), (5, .int y2.toInt32), (4, sv_r E (181 + x1.toNatClampNeg)), (0, sv_r E 64), (1, .int x1), (2, .long y2)]) (sv_d k_X_bookRow 58 rfl) (by decide) rfl ?_
      refine sv_aload_n (pc := 90) 7 (sv_d k_X_bookRow 59 rfl) rfl rfl ?_
      refine sv_iload (pc := 91) 4 (sv_d k_X_bookRow 60 rfl) rfl ?_
      refine sv_iload (pc := 93) 3 (sv_d k_X_bookRow 61 rfl) rfl ?_
      refine sv_iload (pc := 95) 2 (sv_d k_X_bookRow 62 rfl) rfl ?_
      refine sv_iload (pc := 97) 1 (sv_d k_X_bookRow 63 rfl) rfl ?_
      refine sv_iload (pc := 99) 0 (sv_d k_X_bookRow 64 rfl) rfl ?_
      refine sv_callV (pc := 101) (ψ := (ss_pi s)) (As := [.int v2, .int v3, .int v4, .int v5, .int v6]) (rest := []) (c := 64) (sv_d k_X_bookRow 65 rfl) g_X_truckRefusal w935 in_X_truckRefusal se_X_truckRefusal cf11 kd64 (ss_lt (by decide)) rfl (Nat.le_of_ble_eq_true rfl) (V_X_truckRefusal E (d + 0) v2 v3 v4 v5 v6 s) (Nat.le_of_ble_eq_true rfl) rfl (fun r7 => ?_)
      show sv_V E _ _ _ 104 _ [.int r7] (ss_e s) _
      refine sv_if_eq (pc := 104) (tgt := 109) (sv_d k_X_bookRow 66 rfl) (by decide) ?_ ?_
      · refine sv_aload_n (pc := 109) 7 (sv_d k_X_bookRow 69 rfl) rfl rfl ?_
        refine sv_getf (pc := 110) 4 (sv_d k_X_bookRow 70 rfl) cf11 (by decide) w520 kd64 (ss_lt (by decide)) (lr_64_4 E _) ?_
        refine sv_callV (pc := 113) (ψ := (ss_pi s)) (As := []) (rest := []) (c := 151) (sv_d k_X_bookRow 71 rfl) g_Tr_areFull w940 in_Tr_areFull se_Tr_areFull cf9 kd151 (ss_lt (by decide)) rfl (Nat.le_of_ble_eq_true rfl) (V_Tr_areFull E (d + 1) s) (Nat.le_of_ble_eq_true rfl) rfl (fun r8 => ?_)
        show sv_V E _ _ _ 116 _ [.int r8] (ss_e s) _
        refine sv_if_eq (pc := 116) (tgt := 121) (sv_d k_X_bookRow 72 rfl) (by decide) ?_ ?_
        · refine sv_aload_n (pc := 121) 7 (sv_d k_X_bookRow 75 rfl) rfl rfl ?_
          refine sv_getf (pc := 122) 4 (sv_d k_X_bookRow 76 rfl) cf11 (by decide) w520 kd64 (ss_lt (by decide)) (lr_64_4 E _) ?_
          refine sv_iload (pc := 125) 4 (sv_d k_X_bookRow 77 rfl) rfl ?_
          refine sv_iload (pc := 127) 3 (sv_d k_X_bookRow 78 rfl) rfl ?_
          refine sv_iload (pc := 129) 2 (sv_d k_X_bookRow 79 rfl) rfl ?_
          refine sv_iload (pc := 131) 1 (sv_d k_X_bookRow 80 rfl) rfl ?_
          refine sv_iload (pc := 133) 0 (sv_d k_X_bookRow 81 rfl) rfl ?_
          refine sv_callV (pc := 135) (ψ := ss_i) (As := [.int v2, .int v3, .int v4, .int v5, .int v6]) (rest := []) (c := 151) (sv_d k_X_bookRow 82 rfl) g_Tr_add w944 in_Tr_add se_Tr_add cf9 kd151 (ss_lt (by decide)) rfl (Nat.le_of_ble_eq_true rfl) (V_Tr_add E (d + 1) v2 v3 v4 v5 v6 s) (Nat.le_of_ble_eq_true rfl) rfl (fun r9 => ?_)
          show sv_V E _ _ _ 138 _ [.int r9.1] (ss_e r9.2) _
          refine sv_pop (pc := 138) (sv_d k_X_bookRow 83 rfl) rfl ?_
          refine sv_iconst (pc := 139) (v := (0 : Int32)) (sv_d k_X_bookRow 84 rfl) (by decide) ?_
          exact sv_ret (pc := 140) (sv_d k_X_bookRow 85 rfl) ⟨_, rfl, rfl⟩ rfl
        · refine sv_iconst (pc := 119) (v := (3 : Int32)) (sv_d k_X_bookRow 73 rfl) (by decide) ?_
          exact sv_ret (pc := 120) (sv_d k_X_bookRow 74 rfl) ⟨_, rfl, rfl⟩ rfl
      · refine sv_iconst (pc := 107) (v := (2 : Int32)) (sv_d k_X_bookRow 67 rfl) (by decide) ?_
        exact sv_ret (pc := 108) (sv_d k_X_bookRow 68 rfl) ⟨_, rfl, rfl⟩ rfl
    · refine sv_iconst (pc := 25) (v := (1 : Int32)) (sv_d k_X_bookRow 15 rfl) (by decide) ?_
      exact sv_ret (pc := 26) (sv_d k_X_bookRow 16 rfl) ⟨_, rfl, rfl⟩ rfl
/-! X_pass -/
abbrev m_X_pass : sv_M := (yX11_pass, cX11_pass, 2, (some .int))
def t_X_pass : List (Nat × Instr × Nat) := [(0, .iload_n 1, 1), (1, .iconst 1, 1), (2, .if_icmp .lt 22, 3), (5, .iload_n 1, 1), (6, .sipush 400, 3), (9, .if_icmp .gt 15, 3), (12, .aload_n 0, 1), (13, .getfield 86, 3), (16, .iload_n 1, 1), (17, .iadd, 1), (18, .sipush 9999, 3), (21, .if_icmp .le 6, 3), (24, .bipush (-2), 2), (26, .ireturn, 1), (27, .aload_n 0, 1), (28, .dup, 1), (29, .getfield 86, 3), (32, .iload_n 1, 1), (33, .iadd, 1), (34, .putfield 86, 3), (37, .aload_n 0, 1), (38, .getfield 86, 3), (41, .ireturn, 1)]
theorem k_X_pass : sv_tk m_X_pass.2.1 t_X_pass := by decide +kernel
theorem g_X_pass : sv_G m_X_pass 1 := ⟨by decide +kernel, sv_in 553 (by decide +kernel) rfl, sv_in 90 (by decide +kernel) rfl, ⟨by decide, by decide⟩, by decide +kernel, by decide⟩
theorem in_X_pass : Cond.instanceMethod m_X_pass.1 ∈ sv_T := sv_in 551 (by decide +kernel) rfl
theorem se_X_pass : Cond.selects m_X_pass.1.cls m_X_pass.1 m_X_pass.1 ∈ sv_T := sv_in 552 (by decide +kernel) rfl
def F_X_pass (x1 : Int32) (s : sv_S) : Option (Int32 × sv_S) :=
  if x1 < (1 : Int32) then
    some ((-2 : Int32), s)
  else
  if (400 : Int32) < x1 then
    some ((-2 : Int32), s)
  else
  if ((s.1 64 9) + x1) ≤ (9999 : Int32) then
    ss_let (ss_setI s 64 9 ((s.1 64 9) + x1)) fun s1 =>
    some (s1.1 64 9, s1)
  else
  some ((-2 : Int32), s)
theorem V_X_pass (E : sv_E) (d : Nat) (x1 : Int32) (s : sv_S) : sv_V E m_X_pass (d + 0) ss_i 0 (lv_args 0 [sv_r E 64, .int x1]) [] (ss_e s) (F_X_pass x1 s) := by
  show sv_V E m_X_pass (d + 0) ss_i 0 [(0, sv_r E 64), (1, .int x1)] [] (ss_e s) _
  unfold F_X_pass
  refine sv_iload_n (pc := 0) 1 (sv_d k_X_pass 0 rfl) rfl rfl ?_
  refine sv_iconst (pc := 1) (v := (1 : Int32)) (sv_d k_X_pass 1 rfl) (by decide) ?_
  refine sv_icmp_lt (pc := 2) (tgt := 24) (sv_d k_X_pass 2 rfl) (by decide) ?_ ?_
  · refine sv_bipush (pc := 24) (v := (-2 : Int32)) (sv_d k_X_pass 12 rfl) (by decide) ?_
    exact sv_ret (pc := 26) (sv_d k_X_pass 13 rfl) ⟨_, rfl, rfl⟩ rfl
  · refine sv_iload_n (pc := 5) 1 (sv_d k_X_pass 3 rfl) rfl rfl ?_
    refine sv_sipush (pc := 6) (v := (400 : Int32)) (sv_d k_X_pass 4 rfl) (by decide) ?_
    refine sv_icmp_gt (pc := 9) (tgt := 24) (sv_d k_X_pass 5 rfl) (by decide) ?_ ?_
    · refine sv_bipush (pc := 24) (v := (-2 : Int32)) (sv_d k_X_pass 12 rfl) (by decide) ?_
      exact sv_ret (pc := 26) (sv_d k_X_pass 13 rfl) ⟨_, rfl, rfl⟩ rfl
    · refine sv_aload_n (pc := 12) 0 (sv_d k_X_pass 6 rfl) rfl rfl ?_
      refine sv_getf (pc := 13) 9 (sv_d k_X_pass 7 rfl) cf11 (by decide) w525 kd64 (ss_lt (by decide)) rfl ?_
      refine sv_iload_n (pc := 16) 1 (sv_d k_X_pass 8 rfl) rfl rfl ?_
      refine sv_iadd (pc := 17) (sv_d k_X_pass 9 rfl) ?_
      refine sv_sipush (pc := 18) (v := (9999 : Int32)) (sv_d k_X_pass 10 rfl) (by decide) ?_
      refine sv_icmp_le (pc := 21) (tgt := 27) (sv_d k_X_pass 11 rfl) (by decide) ?_ ?_
      · refine sv_aload_n (pc := 27) 0 (sv_d k_X_pass 14 rfl) rfl rfl ?_
        refine sv_dup (pc := 28) (sv_d k_X_pass 15 rfl) rfl ?_
        refine sv_getf (pc := 29) 9 (sv_d k_X_pass 16 rfl) cf11 (by decide) w525 kd64 (ss_lt (by decide)) rfl ?_
        refine sv_iload_n (pc := 32) 1 (sv_d k_X_pass 17 rfl) rfl rfl ?_
        refine sv_iadd (pc := 33) (sv_d k_X_pass 18 rfl) ?_
        refine ss_putI (pc := 34) 9 (sv_d k_X_pass 19 rfl) cf11 (by decide) rfl w525 kd64 (ss_lt (by decide)) rfl rfl (fun _ => rfl) (ss_lets (fun s1 e_s1 => ?_))
        refine sv_aload_n (pc := 37) 0 (sv_d k_X_pass 20 rfl) rfl rfl ?_
        refine sv_getf (pc := 38) 9 (sv_d k_X_pass 21 rfl) cf11 (by decide) w525 kd64 (ss_lt (by decide)) rfl ?_
        exact sv_ret (pc := 41) (sv_d k_X_pass 22 rfl) ⟨_, rfl, rfl⟩ rfl
      · refine sv_bipush (pc := 24) (v := (-2 : Int32)) (sv_d k_X_pass 12 rfl) (by decide) ?_
        exact sv_ret (pc := 26) (sv_d k_X_pass 13 rfl) ⟨_, rfl, rfl⟩ rfl
/-! X_line -/
abbrev m_X_line : sv_M := (yX11_line, cX11_line, 5, (some .int))
def t_X_line : List (Nat × Instr × Nat) := [(0, .iload_n 1, 1), (1, .invokestatic 89, 3), (4, .ifCond .eq 11, 3), (7, .iload_n 2, 1), (8, .iload_n 3, 1), (9, .invokestatic 93, 3), (12, .ifCond .ne 5, 3), (15, .iconst (-1), 1), (16, .ireturn, 1), (17, .iload_n 2, 1), (18, .iload_n 3, 1), (19, .if_icmp .eq 17, 3), (22, .iload 4, 2), (24, .iconst 1, 1), (25, .if_icmp .lt 11, 3), (28, .iload 4, 2), (30, .sipush 200, 3), (33, .if_icmp .le 6, 3), (36, .bipush (-2), 2), (38, .ireturn, 1), (39, .aload_n 0, 1), (40, .getfield 12, 3), (43, .invokevirtual 97, 3), (46, .ifCond .eq 8, 3), (49, .bipush (-4), 2), (51, .goto 15, 3), (54, .aload_n 0, 1), (55, .getfield 12, 3), (58, .iload_n 1, 1), (59, .iload_n 2, 1), (60, .iload_n 3, 1), (61, .iload 4, 2), (63, .invokevirtual 101, 3), (66, .ireturn, 1)]
theorem k_X_line : sv_tk m_X_line.2.1 t_X_line := by decide +kernel
theorem g_X_line : sv_G m_X_line 4 := ⟨by decide +kernel, sv_in 557 (by decide +kernel) rfl, sv_in 90 (by decide +kernel) rfl, ⟨by decide, by decide⟩, by decide +kernel, by decide⟩
theorem in_X_line : Cond.instanceMethod m_X_line.1 ∈ sv_T := sv_in 555 (by decide +kernel) rfl
theorem se_X_line : Cond.selects m_X_line.1.cls m_X_line.1 m_X_line.1 ∈ sv_T := sv_in 556 (by decide +kernel) rfl
def F_X_line (x1 : Int32) (x2 : Int32) (x3 : Int32) (x4 : Int32) (s : sv_S) : Option (Int32 × sv_S) :=
  (F_X_isOwner x1 s).bind fun r1 =>
  if r1 = 0 then
    some ((-1 : Int32), s)
  else
  (F_X_areStations x2 x3 s).bind fun r2 =>
  if r2 = 0 then
    some ((-1 : Int32), s)
  else
  if x2 = x3 then
    some ((-2 : Int32), s)
  else
  if x4 < (1 : Int32) then
    some ((-2 : Int32), s)
  else
  if x4 ≤ (200 : Int32) then
    (F_Ro_isFull s).bind fun r3 =>
    if r3 = 0 then
      (F_Ro_add x1 x2 x3 x4 s).bind fun r4 =>
      some (r4.1, r4.2)
    else
    some ((-4 : Int32), s)
  else
  some ((-2 : Int32), s)
theorem V_X_line (E : sv_E) (d : Nat) (x1 : Int32) (x2 : Int32) (x3 : Int32) (x4 : Int32) (s : sv_S) : sv_V E m_X_line (d + 3) ss_i 0 (lv_args 0 [sv_r E 64, .int x1, .int x2, .int x3, .int x4]) [] (ss_e s) (F_X_line x1 x2 x3 x4 s) := by
  show sv_V E m_X_line (d + 3) ss_i 0 [(0, sv_r E 64), (1, .int x1), (2, .int x2), (3, .int x3), (4, .int x4)] [] (ss_e s) _
  unfold F_X_line
  refine sv_iload_n (pc := 0) 1 (sv_d k_X_line 0 rfl) rfl rfl ?_
  refine sv_callS (pc := 1) (ψ := (ss_pi s)) (As := [.int x1]) (rest := []) (sv_d k_X_line 1 rfl) g_X_isOwner w558 st_X_isOwner rfl (Nat.le_of_ble_eq_true rfl) (V_X_isOwner E (d + 2) x1 s) (Nat.le_of_ble_eq_true rfl) rfl (fun r1 => ?_)
  show sv_V E _ _ _ 4 _ [.int r1] (ss_e s) _
  refine sv_if_eq (pc := 4) (tgt := 15) (sv_d k_X_line 2 rfl) (by decide) ?_ ?_
  · refine sv_iconst (pc := 15) (v := (-1 : Int32)) (sv_d k_X_line 7 rfl) (by decide) ?_
    exact sv_ret (pc := 16) (sv_d k_X_line 8 rfl) ⟨_, rfl, rfl⟩ rfl
  · refine sv_iload_n (pc := 7) 2 (sv_d k_X_line 3 rfl) rfl rfl ?_
    refine sv_iload_n (pc := 8) 3 (sv_d k_X_line 4 rfl) rfl rfl ?_
    refine sv_callS (pc := 9) (ψ := (ss_pi s)) (As := [.int x2, .int x3]) (rest := []) (sv_d k_X_line 5 rfl) g_X_areStations w561 st_X_areStations rfl (Nat.le_of_ble_eq_true rfl) (V_X_areStations E (d + 1) x2 x3 s) (Nat.le_of_ble_eq_true rfl) rfl (fun r2 => ?_)
    show sv_V E _ _ _ 12 _ [.int r2] (ss_e s) _
    refine sv_if_ne (pc := 12) (tgt := 17) (sv_d k_X_line 6 rfl) (by decide) ?_ ?_
    · refine sv_iload_n (pc := 17) 2 (sv_d k_X_line 9 rfl) rfl rfl ?_
      refine sv_iload_n (pc := 18) 3 (sv_d k_X_line 10 rfl) rfl rfl ?_
      refine sv_icmp_eq (pc := 19) (tgt := 36) (sv_d k_X_line 11 rfl) (by decide) ?_ ?_
      · refine sv_bipush (pc := 36) (v := (-2 : Int32)) (sv_d k_X_line 18 rfl) (by decide) ?_
        exact sv_ret (pc := 38) (sv_d k_X_line 19 rfl) ⟨_, rfl, rfl⟩ rfl
      · refine sv_iload (pc := 22) 4 (sv_d k_X_line 12 rfl) rfl ?_
        refine sv_iconst (pc := 24) (v := (1 : Int32)) (sv_d k_X_line 13 rfl) (by decide) ?_
        refine sv_icmp_lt (pc := 25) (tgt := 36) (sv_d k_X_line 14 rfl) (by decide) ?_ ?_
        · refine sv_bipush (pc := 36) (v := (-2 : Int32)) (sv_d k_X_line 18 rfl) (by decide) ?_
          exact sv_ret (pc := 38) (sv_d k_X_line 19 rfl) ⟨_, rfl, rfl⟩ rfl
        · refine sv_iload (pc := 28) 4 (sv_d k_X_line 15 rfl) rfl ?_
          refine sv_sipush (pc := 30) (v := (200 : Int32)) (sv_d k_X_line 16 rfl) (by decide) ?_
          refine sv_icmp_le (pc := 33) (tgt := 39) (sv_d k_X_line 17 rfl) (by decide) ?_ ?_
          · refine sv_aload_n (pc := 39) 0 (sv_d k_X_line 20 rfl) rfl rfl ?_
            refine sv_getf (pc := 40) 0 (sv_d k_X_line 21 rfl) cf11 (by decide) w516 kd64 (ss_lt (by decide)) (lr_64_0 E _) ?_
            refine sv_callV (pc := 43) (ψ := (ss_pi s)) (As := []) (rest := []) (c := 65) (sv_d k_X_line 22 rfl) g_Ro_isFull w567 in_Ro_isFull se_Ro_isFull cf7 kd65 (ss_lt (by decide)) rfl (Nat.le_of_ble_eq_true rfl) (V_Ro_isFull E (d + 2) s) (Nat.le_of_ble_eq_true rfl) rfl (fun r3 => ?_)
            show sv_V E _ _ _ 46 _ [.int r3] (ss_e s) _
            refine sv_if_eq (pc := 46) (tgt := 54) (sv_d k_X_line 23 rfl) (by decide) ?_ ?_
            · refine sv_aload_n (pc := 54) 0 (sv_d k_X_line 26 rfl) rfl rfl ?_
              refine sv_getf (pc := 55) 0 (sv_d k_X_line 27 rfl) cf11 (by decide) w516 kd64 (ss_lt (by decide)) (lr_64_0 E _) ?_
              refine sv_iload_n (pc := 58) 1 (sv_d k_X_line 28 rfl) rfl rfl ?_
              refine sv_iload_n (pc := 59) 2 (sv_d k_X_line 29 rfl) rfl rfl ?_
              refine sv_iload_n (pc := 60) 3 (sv_d k_X_line 30 rfl) rfl rfl ?_
              refine sv_iload (pc := 61) 4 (sv_d k_X_line 31 rfl) rfl ?_
              refine sv_callV (pc := 63) (ψ := ss_i) (As := [.int x1, .int x2, .int x3, .int x4]) (rest := []) (c := 65) (sv_d k_X_line 32 rfl) g_Ro_add w571 in_Ro_add se_Ro_add cf7 kd65 (ss_lt (by decide)) rfl (Nat.le_of_ble_eq_true rfl) (V_Ro_add E (d + 0) x1 x2 x3 x4 s) (Nat.le_of_ble_eq_true rfl) rfl (fun r4 => ?_)
              show sv_V E _ _ _ 66 _ [.int r4.1] (ss_e r4.2) _
              exact sv_ret (pc := 66) (sv_d k_X_line 33 rfl) ⟨_, rfl, rfl⟩ rfl
            · refine sv_bipush (pc := 49) (v := (-4 : Int32)) (sv_d k_X_line 24 rfl) (by decide) ?_
              refine sv_goto (pc := 51) (tgt := 66) (sv_d k_X_line 25 rfl) (by decide) ?_
              exact sv_ret (pc := 66) (sv_d k_X_line 33 rfl) ⟨_, rfl, rfl⟩ rfl
          · refine sv_bipush (pc := 36) (v := (-2 : Int32)) (sv_d k_X_line 18 rfl) (by decide) ?_
            exact sv_ret (pc := 38) (sv_d k_X_line 19 rfl) ⟨_, rfl, rfl⟩ rfl
    · refine sv_iconst (pc := 15) (v := (-1 : Int32)) (sv_d k_X_line 7 rfl) (by decide) ?_
      exact sv_ret (pc := 16) (sv_d k_X_line 8 rfl) ⟨_, rfl, rfl⟩ rfl
/-! X_miles -/
abbrev m_X_miles : sv_M := (yX11_miles, cX11_miles, 5, (some .int))
def t_X_miles : List (Nat × Instr × Nat) := [(0, .iload_n 1, 1), (1, .invokestatic 105, 3), (4, .ifCond .eq 11, 3), (7, .iload_n 2, 1), (8, .iload_n 3, 1), (9, .invokestatic 93, 3), (12, .ifCond .ne 5, 3), (15, .iconst (-1), 1), (16, .ireturn, 1), (17, .aload_n 0, 1), (18, .getfield 12, 3), (21, .iload_n 1, 1), (22, .iload_n 2, 1), (23, .iload_n 3, 1), (24, .invokevirtual 108, 3), (27, .istore 4, 2), (29, .iload 4, 2), (31, .ifCond .ge 8, 3), (34, .bipush (-3), 2), (36, .goto 5, 3), (39, .iload 4, 2), (41, .ireturn, 1)]
theorem k_X_miles : sv_tk m_X_miles.2.1 t_X_miles := by decide +kernel
theorem g_X_miles : sv_G m_X_miles 3 := ⟨by decide +kernel, sv_in 584 (by decide +kernel) rfl, sv_in 90 (by decide +kernel) rfl, ⟨by decide, by decide⟩, by decide +kernel, by decide⟩
theorem in_X_miles : Cond.instanceMethod m_X_miles.1 ∈ sv_T := sv_in 582 (by decide +kernel) rfl
theorem se_X_miles : Cond.selects m_X_miles.1.cls m_X_miles.1 m_X_miles.1 ∈ sv_T := sv_in 583 (by decide +kernel) rfl
def F_X_miles (x1 : Int32) (x2 : Int32) (x3 : Int32) (s : sv_S) : Option (Int32) :=
  (F_X_isOwnerOrNoOne x1 s).bind fun r1 =>
  if r1 = 0 then
    some (-1 : Int32)
  else
  (F_X_areStations x2 x3 s).bind fun r2 =>
  if r2 = 0 then
    some (-1 : Int32)
  else
  (F_Ro_between x1 x2 x3 s).bind fun r3 =>
  if 0 ≤ r3 then
    some r3
  else
  some (-3 : Int32)
theorem V_X_miles (E : sv_E) (d : Nat) (x1 : Int32) (x2 : Int32) (x3 : Int32) (s : sv_S) : sv_V E m_X_miles (d + 2) (ss_pi s) 0 (lv_args 0 [sv_r E 64, .int x1, .int x2, .int x3]) [] (ss_e s) (F_X_miles x1 x2 x3 s) := by
  show sv_V E m_X_miles (d + 2) (ss_pi s) 0 [(0, sv_r E 64), (1, .int x1), (2, .int x2), (3, .int x3)] [] (ss_e s) _
  unfold F_X_miles
  refine sv_iload_n (pc := 0) 1 (sv_d k_X_miles 0 rfl) rfl rfl ?_
  refine sv_callS (pc := 1) (ψ := (ss_pi s)) (As := [.int x1]) (rest := []) (sv_d k_X_miles 1 rfl) g_X_isOwnerOrNoOne w585 st_X_isOwnerOrNoOne rfl (Nat.le_of_ble_eq_true rfl) (V_X_isOwnerOrNoOne E (d + 0) x1 s) (Nat.le_of_ble_eq_true rfl) rfl (fun r1 => ?_)
  show sv_V E _ _ _ 4 _ [.int r1] (ss_e s) _
  refine sv_if_eq (pc := 4) (tgt := 15) (sv_d k_X_miles 2 rfl) (by decide) ?_ ?_
  · refine sv_iconst (pc := 15) (v := (-1 : Int32)) (sv_d k_X_miles 7 rfl) (by decide) ?_
    exact sv_ret (pc := 16) (sv_d k_X_miles 8 rfl) ⟨_, rfl, rfl⟩ rfl
  · refine sv_iload_n (pc := 7) 2 (sv_d k_X_miles 3 rfl) rfl rfl ?_
    refine sv_iload_n (pc := 8) 3 (sv_d k_X_miles 4 rfl) rfl rfl ?_
    refine sv_callS (pc := 9) (ψ := (ss_pi s)) (As := [.int x2, .int x3]) (rest := []) (sv_d k_X_miles 5 rfl) g_X_areStations w561 st_X_areStations rfl (Nat.le_of_ble_eq_true rfl) (V_X_areStations E (d + 0) x2 x3 s) (Nat.le_of_ble_eq_true rfl) rfl (fun r2 => ?_)
    show sv_V E _ _ _ 12 _ [.int r2] (ss_e s) _
    refine sv_if_ne (pc := 12) (tgt := 17) (sv_d k_X_miles 6 rfl) (by decide) ?_ ?_
    · refine sv_aload_n (pc := 17) 0 (sv_d k_X_miles 9 rfl) rfl rfl ?_
      refine sv_getf (pc := 18) 0 (sv_d k_X_miles 10 rfl) cf11 (by decide) w516 kd64 (ss_lt (by decide)) (lr_64_0 E _) ?_
      refine sv_iload_n (pc := 21) 1 (sv_d k_X_miles 11 rfl) rfl rfl ?_
      refine sv_iload_n (pc := 22) 2 (sv_d k_X_miles 12 rfl) rfl rfl ?_
      refine sv_iload_n (pc := 23) 3 (sv_d k_X_miles 13 rfl) rfl rfl ?_
      refine sv_callV (pc := 24) (ψ := (ss_pi s)) (As := [.int x1, .int x2, .int x3]) (rest := []) (c := 65) (sv_d k_X_miles 14 rfl) g_Ro_between w588 in_Ro_between se_Ro_between cf7 kd65 (ss_lt (by decide)) rfl (Nat.le_of_ble_eq_true rfl) (V_Ro_between E (d + 1) x1 x2 x3 s) (Nat.le_of_ble_eq_true rfl) rfl (fun r3 => ?_)
      show sv_V E _ _ _ 27 _ [.int r3] (ss_e s) _
      refine sv_istore (pc := 27) (lv' := [(4, .int r3), (0, sv_r E 64), (1, .int x1), (2, .int x2), (3, .int x3)]) (sv_d k_X_miles 15 rfl) (by decide) rfl ?_
      refine sv_iload (pc := 29) 0 (sv_d k_X_miles 16 rfl) rfl ?_
      refine sv_if_ge (pc := 31) (tgt := 39) (sv_d k_X_miles 17 rfl) (by decide) ?_ ?_
      · refine sv_iload (pc := 39) 0 (sv_d k_X_miles 20 rfl) rfl ?_
        exact sv_ret (pc := 41) (sv_d k_X_miles 21 rfl) ⟨_, rfl, rfl⟩ rfl
      · refine sv_bipush (pc := 34) (v := (-3 : Int32)) (sv_d k_X_miles 18 rfl) (by decide) ?_
        refine sv_goto (pc := 36) (tgt := 41) (sv_d k_X_miles 19 rfl) (by decide) ?_
        exact sv_ret (pc := 41) (sv_d k_X_miles 21 rfl) ⟨_, rfl, rfl⟩ rfl
    · refine sv_iconst (pc := 15) (v := (-1 : Int32)) (sv_d k_X_miles 7 rfl) (by decide) ?_
      exact sv_ret (pc := 16) (sv_d k_X_miles 8 rfl) ⟨_, rfl, rfl⟩ rfl
/-! X_way -/
abbrev m_X_way : sv_M := (yX11_way, cX11_way, 5, (some .int))
def t_X_way : List (Nat × Instr × Nat) := [(0, .iload_n 1, 1), (1, .iload_n 2, 1), (2, .invokestatic 93, 3), (5, .ifCond .eq 7, 3), (8, .iload_n 3, 1), (9, .ifCond .ge 5, 3), (12, .iconst (-1), 1), (13, .ireturn, 1), (14, .aload_n 0, 1), (15, .getfield 12, 3), (18, .iload_n 1, 1), (19, .iload_n 2, 1), (20, .iload_n 3, 1), (21, .invokevirtual 112, 3), (24, .istore 4, 2), (26, .iload 4, 2), (28, .ifCond .ge 7, 3), (31, .iconst (-1), 1), (32, .goto 5, 3), (35, .iload 4, 2), (37, .ireturn, 1)]
theorem k_X_way : sv_tk m_X_way.2.1 t_X_way := by decide +kernel
theorem g_X_way : sv_G m_X_way 3 := ⟨by decide +kernel, sv_in 595 (by decide +kernel) rfl, sv_in 90 (by decide +kernel) rfl, ⟨by decide, by decide⟩, by decide +kernel, by decide⟩
theorem in_X_way : Cond.instanceMethod m_X_way.1 ∈ sv_T := sv_in 593 (by decide +kernel) rfl
theorem se_X_way : Cond.selects m_X_way.1.cls m_X_way.1 m_X_way.1 ∈ sv_T := sv_in 594 (by decide +kernel) rfl
def F_X_way (x1 : Int32) (x2 : Int32) (x3 : Int32) (s : sv_S) : Option (Int32) :=
  (F_X_areStations x1 x2 s).bind fun r1 =>
  if r1 = 0 then
    some (-1 : Int32)
  else
  if 0 ≤ x3 then
    (F_Ro_lineOnWay x1 x2 x3 s).bind fun r2 =>
    if 0 ≤ r2 then
      some r2
    else
    some (-1 : Int32)
  else
  some (-1 : Int32)
theorem V_X_way (E : sv_E) (d : Nat) (x1 : Int32) (x2 : Int32) (x3 : Int32) (s : sv_S) : sv_V E m_X_way (d + 3) (ss_pi s) 0 (lv_args 0 [sv_r E 64, .int x1, .int x2, .int x3]) [] (ss_e s) (F_X_way x1 x2 x3 s) := by
  show sv_V E m_X_way (d + 3) (ss_pi s) 0 [(0, sv_r E 64), (1, .int x1), (2, .int x2), (3, .int x3)] [] (ss_e s) _
  unfold F_X_way
  refine sv_iload_n (pc := 0) 1 (sv_d k_X_way 0 rfl) rfl rfl ?_
  refine sv_iload_n (pc := 1) 2 (sv_d k_X_way 1 rfl) rfl rfl ?_
  refine sv_callS (pc := 2) (ψ := (ss_pi s)) (As := [.int x1, .int x2]) (rest := []) (sv_d k_X_way 2 rfl) g_X_areStations w561 st_X_areStations rfl (Nat.le_of_ble_eq_true rfl) (V_X_areStations E (d + 1) x1 x2 s) (Nat.le_of_ble_eq_true rfl) rfl (fun r1 => ?_)
  show sv_V E _ _ _ 5 _ [.int r1] (ss_e s) _
  refine sv_if_eq (pc := 5) (tgt := 12) (sv_d k_X_way 3 rfl) (by decide) ?_ ?_
  · refine sv_iconst (pc := 12) (v := (-1 : Int32)) (sv_d k_X_way 6 rfl) (by decide) ?_
    exact sv_ret (pc := 13) (sv_d k_X_way 7 rfl) ⟨_, rfl, rfl⟩ rfl
  · refine sv_iload_n (pc := 8) 3 (sv_d k_X_way 4 rfl) rfl rfl ?_
    refine sv_if_ge (pc := 9) (tgt := 14) (sv_d k_X_way 5 rfl) (by decide) ?_ ?_
    · refine sv_aload_n (pc := 14) 0 (sv_d k_X_way 8 rfl) rfl rfl ?_
      refine sv_getf (pc := 15) 0 (sv_d k_X_way 9 rfl) cf11 (by decide) w516 kd64 (ss_lt (by decide)) (lr_64_0 E _) ?_
      refine sv_iload_n (pc := 18) 1 (sv_d k_X_way 10 rfl) rfl rfl ?_
      refine sv_iload_n (pc := 19) 2 (sv_d k_X_way 11 rfl) rfl rfl ?_
      refine sv_iload_n (pc := 20) 3 (sv_d k_X_way 12 rfl) rfl rfl ?_
      refine sv_callV (pc := 21) (ψ := (ss_pi s)) (As := [.int x1, .int x2, .int x3]) (rest := []) (c := 65) (sv_d k_X_way 13 rfl) g_Ro_lineOnWay w596 in_Ro_lineOnWay se_Ro_lineOnWay cf7 kd65 (ss_lt (by decide)) rfl (Nat.le_of_ble_eq_true rfl) (V_Ro_lineOnWay E (d + 0) x1 x2 x3 s) (Nat.le_of_ble_eq_true rfl) rfl (fun r2 => ?_)
      show sv_V E _ _ _ 24 _ [.int r2] (ss_e s) _
      refine sv_istore (pc := 24) (lv' := [(4, .int r2), (0, sv_r E 64), (1, .int x1), (2, .int x2), (3, .int x3)]) (sv_d k_X_way 14 rfl) (by decide) rfl ?_
      refine sv_iload (pc := 26) 0 (sv_d k_X_way 15 rfl) rfl ?_
      refine sv_if_ge (pc := 28) (tgt := 35) (sv_d k_X_way 16 rfl) (by decide) ?_ ?_
      · refine sv_iload (pc := 35) 0 (sv_d k_X_way 19 rfl) rfl ?_
        exact sv_ret (pc := 37) (sv_d k_X_way 20 rfl) ⟨_, rfl, rfl⟩ rfl
      · refine sv_iconst (pc := 31) (v := (-1 : Int32)) (sv_d k_X_way 17 rfl) (by decide) ?_
        refine sv_goto (pc := 32) (tgt := 37) (sv_d k_X_way 18 rfl) (by decide) ?_
        exact sv_ret (pc := 37) (sv_d k_X_way 20 rfl) ⟨_, rfl, rfl⟩ rfl
    · refine sv_iconst (pc := 12) (v := (-1 : Int32)) (sv_d k_X_way 6 rfl) (by decide) ?_
      exact sv_ret (pc := 13) (sv_d k_X_way 7 rfl) ⟨_, rfl, rfl⟩ rfl
/-! X_holds -/
abbrev m_X_holds : sv_M := (yX11_holds, cX11_holds, 4, (some .int))
def t_X_holds : List (Nat × Instr × Nat) := [(0, .iload_n 1, 1), (1, .invokestatic 105, 3), (4, .ifCond .eq 20, 3), (7, .iload_n 2, 1), (8, .invokestatic 122, 3), (11, .ifCond .eq 13, 3), (14, .iload_n 3, 1), (15, .ifCond .lt 9, 3), (18, .iload_n 3, 1), (19, .bipush 40, 2), (21, .if_icmp .lt 6, 3), (24, .bipush (-5), 2), (26, .ireturn, 1), (27, .iload_n 3, 1), (28, .ifCond .ne 16, 3), (31, .aload_n 0, 1), (32, .getfield 28, 3), (35, .iload_n 1, 1), (36, .iload_n 2, 1), (37, .invokevirtual 140, 3), (40, .getfield 144, 3), (43, .ireturn, 1), (44, .iload_n 3, 1), (45, .bipush 6, 2), (47, .if_icmp .le 14, 3), (50, .iload_n 3, 1), (51, .bipush 10, 2), (53, .if_icmp .ge 8, 3), (56, .bipush (-5), 2), (58, .goto 13, 3), (61, .aload_n 0, 1), (62, .getfield 28, 3), (65, .iload_n 1, 1), (66, .iload_n 2, 1), (67, .iload_n 3, 1), (68, .invokevirtual 149, 3), (71, .ireturn, 1)]
theorem k_X_holds : sv_tk m_X_holds.2.1 t_X_holds := by decide +kernel
theorem g_X_holds : sv_G m_X_holds 3 := ⟨by decide +kernel, sv_in 791 (by decide +kernel) rfl, sv_in 90 (by decide +kernel) rfl, ⟨by decide, by decide⟩, by decide +kernel, by decide⟩
theorem in_X_holds : Cond.instanceMethod m_X_holds.1 ∈ sv_T := sv_in 789 (by decide +kernel) rfl
theorem se_X_holds : Cond.selects m_X_holds.1.cls m_X_holds.1 m_X_holds.1 ∈ sv_T := sv_in 790 (by decide +kernel) rfl
def F_X_holds (x1 : Int32) (x2 : Int32) (x3 : Int32) (s : sv_S) : Option (Int32 × sv_S) :=
  (F_X_isOwnerOrNoOne x1 s).bind fun r1 =>
  if r1 = 0 then
    some ((-5 : Int32), s)
  else
  (F_X_isDay x2 s).bind fun r2 =>
  if r2 = 0 then
    some ((-5 : Int32), s)
  else
  if x3 < 0 then
    some ((-5 : Int32), s)
  else
  if x3 < (40 : Int32) then
    if x3 = 0 then
      (F_Ls_inForce x1 x2 s).bind fun r5 =>
      if ss_ok2 r5.2 r5.1 2 = true then
        some (r5.2.1 r5.1 0, r5.2)
      else none
    else
    if x3 ≤ (6 : Int32) then
      (F_Ls_value x1 x2 x3 s).bind fun r3 =>
      some (r3.1, r3.2)
    else
    if (10 : Int32) ≤ x3 then
      (F_Ls_value x1 x2 x3 s).bind fun r4 =>
      some (r4.1, r4.2)
    else
    some ((-5 : Int32), s)
  else
  some ((-5 : Int32), s)
theorem V_X_holds (E : sv_E) (d : Nat) (x1 : Int32) (x2 : Int32) (x3 : Int32) (s : sv_S) : sv_V E m_X_holds (d + 2) ss_i 0 (lv_args 0 [sv_r E 64, .int x1, .int x2, .int x3]) [] (ss_e s) (F_X_holds x1 x2 x3 s) := by
  show sv_V E m_X_holds (d + 2) ss_i 0 [(0, sv_r E 64), (1, .int x1), (2, .int x2), (3, .int x3)] [] (ss_e s) _
  unfold F_X_holds
  refine sv_iload_n (pc := 0) 1 (sv_d k_X_holds 0 rfl) rfl rfl ?_
  refine sv_callS (pc := 1) (ψ := (ss_pi s)) (As := [.int x1]) (rest := []) (sv_d k_X_holds 1 rfl) g_X_isOwnerOrNoOne w585 st_X_isOwnerOrNoOne rfl (Nat.le_of_ble_eq_true rfl) (V_X_isOwnerOrNoOne E (d + 0) x1 s) (Nat.le_of_ble_eq_true rfl) rfl (fun r1 => ?_)
  show sv_V E _ _ _ 4 _ [.int r1] (ss_e s) _
  refine sv_if_eq (pc := 4) (tgt := 24) (sv_d k_X_holds 2 rfl) (by decide) ?_ ?_
  · refine sv_bipush (pc := 24) (v := (-5 : Int32)) (sv_d k_X_holds 11 rfl) (by decide) ?_
    exact sv_ret (pc := 26) (sv_d k_X_holds 12 rfl) ⟨_, rfl, rfl⟩ rfl
  · refine sv_iload_n (pc := 7) 2 (sv_d k_X_holds 3 rfl) rfl rfl ?_
    refine sv_callS (pc := 8) (ψ := (ss_pi s)) (As := [.int x2]) (rest := []) (sv_d k_X_holds 4 rfl) g_X_isDay w621 st_X_isDay rfl (Nat.le_of_ble_eq_true rfl) (V_X_isDay E (d + 1) x2 s) (Nat.le_of_ble_eq_true rfl) rfl (fun r2 => ?_)
    show sv_V E _ _ _ 11 _ [.int r2] (ss_e s) _
    refine sv_if_eq (pc := 11) (tgt := 24) (sv_d k_X_holds 5 rfl) (by decide) ?_ ?_
    · refine sv_bipush (pc := 24) (v := (-5 : Int32)) (sv_d k_X_holds 11 rfl) (by decide) ?_
      exact sv_ret (pc := 26) (sv_d k_X_holds 12 rfl) ⟨_, rfl, rfl⟩ rfl
    · refine sv_iload_n (pc := 14) 3 (sv_d k_X_holds 6 rfl) rfl rfl ?_
      refine sv_if_lt (pc := 15) (tgt := 24) (sv_d k_X_holds 7 rfl) (by decide) ?_ ?_
      · refine sv_bipush (pc := 24) (v := (-5 : Int32)) (sv_d k_X_holds 11 rfl) (by decide) ?_
        exact sv_ret (pc := 26) (sv_d k_X_holds 12 rfl) ⟨_, rfl, rfl⟩ rfl
      · refine sv_iload_n (pc := 18) 3 (sv_d k_X_holds 8 rfl) rfl rfl ?_
        refine sv_bipush (pc := 19) (v := (40 : Int32)) (sv_d k_X_holds 9 rfl) (by decide) ?_
        refine sv_icmp_lt (pc := 21) (tgt := 27) (sv_d k_X_holds 10 rfl) (by decide) ?_ ?_
        · refine sv_iload_n (pc := 27) 3 (sv_d k_X_holds 13 rfl) rfl rfl ?_
          refine sv_if_ne (pc := 28) (tgt := 44) (sv_d k_X_holds 14 rfl) (by decide) ?_ ?_
          · refine sv_iload_n (pc := 44) 3 (sv_d k_X_holds 22 rfl) rfl rfl ?_
            refine sv_bipush (pc := 45) (v := (6 : Int32)) (sv_d k_X_holds 23 rfl) (by decide) ?_
            refine sv_icmp_le (pc := 47) (tgt := 61) (sv_d k_X_holds 24 rfl) (by decide) ?_ ?_
            · refine sv_aload_n (pc := 61) 0 (sv_d k_X_holds 30 rfl) rfl rfl ?_
              refine sv_getf (pc := 62) 2 (sv_d k_X_holds 31 rfl) cf11 (by decide) w518 kd64 (ss_lt (by decide)) (lr_64_2 E _) ?_
              refine sv_iload_n (pc := 65) 1 (sv_d k_X_holds 32 rfl) rfl rfl ?_
              refine sv_iload_n (pc := 66) 2 (sv_d k_X_holds 33 rfl) rfl rfl ?_
              refine sv_iload_n (pc := 67) 3 (sv_d k_X_holds 34 rfl) rfl rfl ?_
              refine sv_callV (pc := 68) (ψ := ss_i) (As := [.int x1, .int x2, .int x3]) (rest := []) (c := 81) (sv_d k_X_holds 35 rfl) g_Ls_value w796 in_Ls_value se_Ls_value cf4 kd81 (ss_lt (by decide)) rfl (Nat.le_of_ble_eq_true rfl) (V_Ls_value E (d + 0) x1 x2 x3 s) (Nat.le_of_ble_eq_true rfl) rfl (fun r3 => ?_)
              show sv_V E _ _ _ 71 _ [.int r3.1] (ss_e r3.2) _
              exact sv_ret (pc := 71) (sv_d k_X_holds 36 rfl) ⟨_, rfl, rfl⟩ rfl
            · refine sv_iload_n (pc := 50) 3 (sv_d k_X_holds 25 rfl) rfl rfl ?_
              refine sv_bipush (pc := 51) (v := (10 : Int32)) (sv_d k_X_holds 26 rfl) (by decide) ?_
              refine sv_icmp_ge (pc := 53) (tgt := 61) (sv_d k_X_holds 27 rfl) (by decide) ?_ ?_
              · refine sv_aload_n (pc := 61) 0 (sv_d k_X_holds 30 rfl) rfl rfl ?_
                refine sv_getf (pc := 62) 2 (sv_d k_X_holds 31 rfl) cf11 (by decide) w518 kd64 (ss_lt (by decide)) (lr_64_2 E _) ?_
                refine sv_iload_n (pc := 65) 1 (sv_d k_X_holds 32 rfl) rfl rfl ?_
                refine sv_iload_n (pc := 66) 2 (sv_d k_X_holds 33 rfl) rfl rfl ?_
                refine sv_iload_n (pc := 67) 3 (sv_d k_X_holds 34 rfl) rfl rfl ?_
                refine sv_callV (pc := 68) (ψ := ss_i) (As := [.int x1, .int x2, .int x3]) (rest := []) (c := 81) (sv_d k_X_holds 35 rfl) g_Ls_value w796 in_Ls_value se_Ls_value cf4 kd81 (ss_lt (by decide)) rfl (Nat.le_of_ble_eq_true rfl) (V_Ls_value E (d + 0) x1 x2 x3 s) (Nat.le_of_ble_eq_true rfl) rfl (fun r4 => ?_)
                show sv_V E _ _ _ 71 _ [.int r4.1] (ss_e r4.2) _
                exact sv_ret (pc := 71) (sv_d k_X_holds 36 rfl) ⟨_, rfl, rfl⟩ rfl
              · refine sv_bipush (pc := 56) (v := (-5 : Int32)) (sv_d k_X_holds 28 rfl) (by decide) ?_
                refine sv_goto (pc := 58) (tgt := 71) (sv_d k_X_holds 29 rfl) (by decide) ?_
                exact sv_ret (pc := 71) (sv_d k_X_holds 36 rfl) ⟨_, rfl, rfl⟩ rfl
          · refine sv_aload_n (pc := 31) 0 (sv_d k_X_holds 15 rfl) rfl rfl ?_
            refine sv_getf (pc := 32) 2 (sv_d k_X_holds 16 rfl) cf11 (by decide) w518 kd64 (ss_lt (by decide)) (lr_64_2 E _) ?_
            refine sv_iload_n (pc := 35) 1 (sv_d k_X_holds 17 rfl) rfl rfl ?_
            refine sv_iload_n (pc := 36) 2 (sv_d k_X_holds 18 rfl) rfl rfl ?_
            refine sv_callV (pc := 37) (ψ := (ss_q E)) (As := [.int x1, .int x2]) (rest := []) (c := 81) (sv_d k_X_holds 19 rfl) g_Ls_inForce w792 in_Ls_inForce se_Ls_inForce cf4 kd81 (ss_lt (by decide)) rfl (Nat.le_of_ble_eq_true rfl) (V_Ls_inForce E (d + 1) x1 x2 s) (Nat.le_of_ble_eq_true rfl) rfl (fun r5 => ?_)
            show sv_V E _ _ _ 40 _ [sv_r E r5.1] (ss_e r5.2) _
            refine ss_gd2 (fun h_g6 o_g6 l_g6 => ?_)
            refine sv_getN (pc := 40) 0 (sv_d k_X_holds 20 rfl) cf2 (by decide) w205 h_g6 l_g6 rfl ?_
            exact sv_ret (pc := 43) (sv_d k_X_holds 21 rfl) ⟨_, rfl, rfl⟩ rfl
        · refine sv_bipush (pc := 24) (v := (-5 : Int32)) (sv_d k_X_holds 11 rfl) (by decide) ?_
          exact sv_ret (pc := 26) (sv_d k_X_holds 12 rfl) ⟨_, rfl, rfl⟩ rfl
/-! X_rate -/
abbrev m_X_rate : sv_M := (yX11_rate, cX11_rate, 8, (some .int))
def t_X_rate : List (Nat × Instr × Nat) := [(0, .iload_n 2, 1), (1, .invokestatic 89, 3), (4, .ifCond .eq 12, 3), (7, .iload_n 3, 1), (8, .iload 4, 2), (10, .invokestatic 93, 3), (13, .ifCond .ne 5, 3), (16, .iconst (-1), 1), (17, .ireturn, 1), (18, .iload_n 1, 1), (19, .ifCond .eq 21, 3), (22, .iload_n 1, 1), (23, .iconst 1, 1), (24, .if_icmp .eq 16, 3), (27, .iload_n 1, 1), (28, .iconst 3, 1), (29, .if_icmp .eq 11, 3), (32, .iload_n 1, 1), (33, .iconst 4, 1), (34, .if_icmp .eq 6, 3), (37, .bipush (-2), 2), (39, .ireturn, 1), (40, .iload_n 3, 1), (41, .iload 4, 2), (43, .if_icmp .eq 41, 3), (46, .iload 7, 2), (48, .ifCond .lt 36, 3), (51, .iload 7, 2), (53, .bipush 10, 2), (55, .if_icmp .ge 29, 3), (58, .iload_n 1, 1), (59, .iload 5, 2), (61, .invokestatic 152, 3), (64, .ifCond .eq 20, 3), (67, .iload 6, 2), (69, .aload_n 0, 1), (70, .getfield 86, 3), (73, .if_icmp .lt 11, 3), (76, .iload 6, 2), (78, .sipush 9999, 3), (81, .if_icmp .le 6, 3), (84, .bipush (-2), 2), (86, .ireturn, 1), (87, .aload_n 0, 1), (88, .getfield 37, 3), (91, .invokevirtual 155, 3), (94, .ifCond .eq 6, 3), (97, .bipush (-4), 2), (99, .ireturn, 1), (100, .aload_n 0, 1), (101, .getfield 37, 3), (104, .iload_n 1, 1), (105, .iload_n 2, 1), (106, .iload_n 3, 1), (107, .iload 4, 2), (109, .iload 5, 2), (111, .iload 7, 2), (113, .iload 6, 2), (115, .aload_n 0, 1), (116, .iload_n 2, 1), (117, .invokevirtual 156, 3), (120, .invokestatic 160, 3), (123, .invokevirtual 165, 3), (126, .ireturn, 1)]
theorem k_X_rate : sv_tk m_X_rate.2.1 t_X_rate := by decide +kernel
theorem g_X_rate : sv_G m_X_rate 7 := ⟨by decide +kernel, sv_in 807 (by decide +kernel) rfl, sv_in 90 (by decide +kernel) rfl, ⟨by decide, by decide⟩, by decide +kernel, by decide⟩
theorem in_X_rate : Cond.instanceMethod m_X_rate.1 ∈ sv_T := sv_in 805 (by decide +kernel) rfl
theorem se_X_rate : Cond.selects m_X_rate.1.cls m_X_rate.1 m_X_rate.1 ∈ sv_T := sv_in 806 (by decide +kernel) rfl
def F_X_rate_b40 (x1 : Int32) (x2 : Int32) (x3 : Int32) (x4 : Int32) (x5 : Int32) (x6 : Int32) (x7 : Int32) (s : sv_S) : Option (Int32 × sv_S) :=
  if x3 = x4 then
    some ((-2 : Int32), s)
  else
  if x7 < 0 then
    some ((-2 : Int32), s)
  else
  if (10 : Int32) ≤ x7 then
    some ((-2 : Int32), s)
  else
  (F_X_isPence x1 x5 s).bind fun r3 =>
  if r3 = 0 then
    some ((-2 : Int32), s)
  else
  if x6 < (s.1 64 9) then
    some ((-2 : Int32), s)
  else
  if x6 ≤ (9999 : Int32) then
    (F_Rs_areFull s).bind fun r4 =>
    if r4 = 0 then
      (F_X_soonest x2 s).bind fun r5 =>
      (F_JM_max x6 r5.1 r5.2).bind fun r6 =>
      (F_Rs_add x1 x2 x3 x4 x5 x7 r6 r5.2).bind fun r7 =>
      some (r7.1, r7.2)
    else
    some ((-4 : Int32), s)
  else
  some ((-2 : Int32), s)
theorem V_X_rate_b40 (E : sv_E) (d : Nat) (x1 : Int32) (x2 : Int32) (x3 : Int32) (x4 : Int32) (x5 : Int32) (x6 : Int32) (x7 : Int32) (s : sv_S) : sv_V E m_X_rate (d + 3) ss_i 40 [(0, sv_r E 64), (1, .int x1), (2, .int x2), (3, .int x3), (4, .int x4), (5, .int x5), (6, .int x6), (7, .int x7)] [] (ss_e s) (F_X_rate_b40 x1 x2 x3 x4 x5 x6 x7 s) := by
  unfold F_X_rate_b40
  refine sv_iload_n (pc := 40) 3 (sv_d k_X_rate 22 rfl) rfl rfl ?_
  refine sv_iload (pc := 41) 4 (sv_d k_X_rate 23 rfl) rfl ?_
  refine sv_icmp_eq (pc := 43) (tgt := 84) (sv_d k_X_rate 24 rfl) (by decide) ?_ ?_
  · refine sv_bipush (pc := 84) (v := (-2 : Int32)) (sv_d k_X_rate 41 rfl) (by decide) ?_
    exact sv_ret (pc := 86) (sv_d k_X_rate 42 rfl) ⟨_, rfl, rfl⟩ rfl
  · refine sv_iload (pc := 46) 7 (sv_d k_X_rate 25 rfl) rfl ?_
    refine sv_if_lt (pc := 48) (tgt := 84) (sv_d k_X_rate 26 rfl) (by decide) ?_ ?_
    · refine sv_bipush (pc := 84) (v := (-2 : Int32)) (sv_d k_X_rate 41 rfl) (by decide) ?_
      exact sv_ret (pc := 86) (sv_d k_X_rate 42 rfl) ⟨_, rfl, rfl⟩ rfl
    · refine sv_iload (pc := 51) 7 (sv_d k_X_rate 27 rfl) rfl ?_
      refine sv_bipush (pc := 53) (v := (10 : Int32)) (sv_d k_X_rate 28 rfl) (by decide) ?_
      refine sv_icmp_ge (pc := 55) (tgt := 84) (sv_d k_X_rate 29 rfl) (by decide) ?_ ?_
      · refine sv_bipush (pc := 84) (v := (-2 : Int32)) (sv_d k_X_rate 41 rfl) (by decide) ?_
        exact sv_ret (pc := 86) (sv_d k_X_rate 42 rfl) ⟨_, rfl, rfl⟩ rfl
      · refine sv_iload_n (pc := 58) 1 (sv_d k_X_rate 30 rfl) rfl rfl ?_
        refine sv_iload (pc := 59) 5 (sv_d k_X_rate 31 rfl) rfl ?_
        refine sv_callS (pc := 61) (ψ := (ss_pi s)) (As := [.int x1, .int x5]) (rest := []) (sv_d k_X_rate 32 rfl) g_X_isPence w808 st_X_isPence rfl (Nat.le_of_ble_eq_true rfl) (V_X_isPence E (d + 2) x1 x5 s) (Nat.le_of_ble_eq_true rfl) rfl (fun r3 => ?_)
        show sv_V E _ _ _ 64 _ [.int r3] (ss_e s) _
        refine sv_if_eq (pc := 64) (tgt := 84) (sv_d k_X_rate 33 rfl) (by decide) ?_ ?_
        · refine sv_bipush (pc := 84) (v := (-2 : Int32)) (sv_d k_X_rate 41 rfl) (by decide) ?_
          exact sv_ret (pc := 86) (sv_d k_X_rate 42 rfl) ⟨_, rfl, rfl⟩ rfl
        · refine sv_iload (pc := 67) 6 (sv_d k_X_rate 34 rfl) rfl ?_
          refine sv_aload_n (pc := 69) 0 (sv_d k_X_rate 35 rfl) rfl rfl ?_
          refine sv_getf (pc := 70) 9 (sv_d k_X_rate 36 rfl) cf11 (by decide) w525 kd64 (ss_lt (by decide)) rfl ?_
          refine sv_icmp_lt (pc := 73) (tgt := 84) (sv_d k_X_rate 37 rfl) (by decide) ?_ ?_
          · refine sv_bipush (pc := 84) (v := (-2 : Int32)) (sv_d k_X_rate 41 rfl) (by decide) ?_
            exact sv_ret (pc := 86) (sv_d k_X_rate 42 rfl) ⟨_, rfl, rfl⟩ rfl
          · refine sv_iload (pc := 76) 6 (sv_d k_X_rate 38 rfl) rfl ?_
            refine sv_sipush (pc := 78) (v := (9999 : Int32)) (sv_d k_X_rate 39 rfl) (by decide) ?_
            refine sv_icmp_le (pc := 81) (tgt := 87) (sv_d k_X_rate 40 rfl) (by decide) ?_ ?_
            · refine sv_aload_n (pc := 87) 0 (sv_d k_X_rate 43 rfl) rfl rfl ?_
              refine sv_getf (pc := 88) 3 (sv_d k_X_rate 44 rfl) cf11 (by decide) w519 kd64 (ss_lt (by decide)) (lr_64_3 E _) ?_
              refine sv_callV (pc := 91) (ψ := (ss_pi s)) (As := []) (rest := []) (c := 88) (sv_d k_X_rate 45 rfl) g_Rs_areFull w811 in_Rs_areFull se_Rs_areFull cf6 kd88 (ss_lt (by decide)) rfl (Nat.le_of_ble_eq_true rfl) (V_Rs_areFull E (d + 2) s) (Nat.le_of_ble_eq_true rfl) rfl (fun r4 => ?_)
              show sv_V E _ _ _ 94 _ [.int r4] (ss_e s) _
              refine sv_if_eq (pc := 94) (tgt := 100) (sv_d k_X_rate 46 rfl) (by decide) ?_ ?_
              · refine sv_aload_n (pc := 100) 0 (sv_d k_X_rate 49 rfl) rfl rfl ?_
                refine sv_getf (pc := 101) 3 (sv_d k_X_rate 50 rfl) cf11 (by decide) w519 kd64 (ss_lt (by decide)) (lr_64_3 E _) ?_
                refine sv_iload_n (pc := 104) 1 (sv_d k_X_rate 51 rfl) rfl rfl ?_
                refine sv_iload_n (pc := 105) 2 (sv_d k_X_rate 52 rfl) rfl rfl ?_
                refine sv_iload_n (pc := 106) 3 (sv_d k_X_rate 53 rfl) rfl rfl ?_
                refine sv_iload (pc := 107) 4 (sv_d k_X_rate 54 rfl) rfl ?_
                refine sv_iload (pc := 109) 5 (sv_d k_X_rate 55 rfl) rfl ?_
                refine sv_iload (pc := 111) 7 (sv_d k_X_rate 56 rfl) rfl ?_
                refine sv_iload (pc := 113) 6 (sv_d k_X_rate 57 rfl) rfl ?_
                refine sv_aload_n (pc := 115) 0 (sv_d k_X_rate 58 rfl) rfl rfl ?_
                refine sv_iload_n (pc := 116) 2 (sv_d k_X_rate 59 rfl) rfl rfl ?_
                refine sv_callV (pc := 117) (ψ := ss_i) (As := [.int x2]) (rest := [.int x6, .int x7, .int x5, .int x4, .int x3, .int x2, .int x1, sv_r E 88]) (c := 64) (sv_d k_X_rate 60 rfl) g_X_soonest w815 in_X_soonest se_X_soonest cf11 kd64 (ss_lt (by decide)) rfl (Nat.le_of_ble_eq_true rfl) (V_X_soonest E (d + 0) x2 s) (Nat.le_of_ble_eq_true rfl) rfl (fun r5 => ?_)
                show sv_V E _ _ _ 120 _ [.int r5.1, .int x6, .int x7, .int x5, .int x4, .int x3, .int x2, .int x1, sv_r E 88] (ss_e r5.2) _
                refine sv_callS (pc := 120) (ψ := (ss_pi r5.2)) (As := [.int x6, .int r5.1]) (rest := [.int x7, .int x5, .int x4, .int x3, .int x2, .int x1, sv_r E 88]) (sv_d k_X_rate 61 rfl) g_JM_max w819 st_JM_max rfl (Nat.le_of_ble_eq_true rfl) (V_JM_max E (d + 2) x6 r5.1 r5.2) (Nat.le_of_ble_eq_true rfl) rfl (fun r6 => ?_)
                show sv_V E _ _ _ 123 _ [.int r6, .int x7, .int x5, .int x4, .int x3, .int x2, .int x1, sv_r E 88] (ss_e r5.2) _
                refine sv_callV (pc := 123) (ψ := ss_i) (As := [.int x1, .int x2, .int x3, .int x4, .int x5, .int x7, .int r6]) (rest := []) (c := 88) (sv_d k_X_rate 62 rfl) g_Rs_add w820 in_Rs_add se_Rs_add cf6 kd88 (ss_lt (by decide)) rfl (Nat.le_of_ble_eq_true rfl) (V_Rs_add E (d + 2) x1 x2 x3 x4 x5 x7 r6 r5.2) (Nat.le_of_ble_eq_true rfl) rfl (fun r7 => ?_)
                show sv_V E _ _ _ 126 _ [.int r7.1] (ss_e r7.2) _
                exact sv_ret (pc := 126) (sv_d k_X_rate 63 rfl) ⟨_, rfl, rfl⟩ rfl
              · refine sv_bipush (pc := 97) (v := (-4 : Int32)) (sv_d k_X_rate 47 rfl) (by decide) ?_
                exact sv_ret (pc := 99) (sv_d k_X_rate 48 rfl) ⟨_, rfl, rfl⟩ rfl
            · refine sv_bipush (pc := 84) (v := (-2 : Int32)) (sv_d k_X_rate 41 rfl) (by decide) ?_
              exact sv_ret (pc := 86) (sv_d k_X_rate 42 rfl) ⟨_, rfl, rfl⟩ rfl
def F_X_rate (x1 : Int32) (x2 : Int32) (x3 : Int32) (x4 : Int32) (x5 : Int32) (x6 : Int32) (x7 : Int32) (s : sv_S) : Option (Int32 × sv_S) :=
  (F_X_isOwner x2 s).bind fun r1 =>
  if r1 = 0 then
    some ((-1 : Int32), s)
  else
  (F_X_areStations x3 x4 s).bind fun r2 =>
  if r2 = 0 then
    some ((-1 : Int32), s)
  else
  if x1 = 0 then
    F_X_rate_b40 x1 x2 x3 x4 x5 x6 x7 s
  else
  if x1 = (1 : Int32) then
    F_X_rate_b40 x1 x2 x3 x4 x5 x6 x7 s
  else
  if x1 = (3 : Int32) then
    F_X_rate_b40 x1 x2 x3 x4 x5 x6 x7 s
  else
  if x1 = (4 : Int32) then
    F_X_rate_b40 x1 x2 x3 x4 x5 x6 x7 s
  else
  some ((-2 : Int32), s)
theorem V_X_rate (E : sv_E) (d : Nat) (x1 : Int32) (x2 : Int32) (x3 : Int32) (x4 : Int32) (x5 : Int32) (x6 : Int32) (x7 : Int32) (s : sv_S) : sv_V E m_X_rate (d + 3) ss_i 0 (lv_args 0 [sv_r E 64, .int x1, .int x2, .int x3, .int x4, .int x5, .int x6, .int x7]) [] (ss_e s) (F_X_rate x1 x2 x3 x4 x5 x6 x7 s) := by
  show sv_V E m_X_rate (d + 3) ss_i 0 [(0, sv_r E 64), (1, .int x1), (2, .int x2), (3, .int x3), (4, .int x4), (5, .int x5), (6, .int x6), (7, .int x7)] [] (ss_e s) _
  unfold F_X_rate
  refine sv_iload_n (pc := 0) 2 (sv_d k_X_rate 0 rfl) rfl rfl ?_
  refine sv_callS (pc := 1) (ψ := (ss_pi s)) (As := [.int x2]) (rest := []) (sv_d k_X_rate 1 rfl) g_X_isOwner w558 st_X_isOwner rfl (Nat.le_of_ble_eq_true rfl) (V_X_isOwner E (d + 2) x2 s) (Nat.le_of_ble_eq_true rfl) rfl (fun r1 => ?_)
  show sv_V E _ _ _ 4 _ [.int r1] (ss_e s) _
  refine sv_if_eq (pc := 4) (tgt := 16) (sv_d k_X_rate 2 rfl) (by decide) ?_ ?_
  · refine sv_iconst (pc := 16) (v := (-1 : Int32)) (sv_d k_X_rate 7 rfl) (by decide) ?_
    exact sv_ret (pc := 17) (sv_d k_X_rate 8 rfl) ⟨_, rfl, rfl⟩ rfl
  · refine sv_iload_n (pc := 7) 3 (sv_d k_X_rate 3 rfl) rfl rfl ?_
    refine sv_iload (pc := 8) 4 (sv_d k_X_rate 4 rfl) rfl ?_
    refine sv_callS (pc := 10) (ψ := (ss_pi s)) (As := [.int x3, .int x4]) (rest := []) (sv_d k_X_rate 5 rfl) g_X_areStations w561 st_X_areStations rfl (Nat.le_of_ble_eq_true rfl) (V_X_areStations E (d + 1) x3 x4 s) (Nat.le_of_ble_eq_true rfl) rfl (fun r2 => ?_)
    show sv_V E _ _ _ 13 _ [.int r2] (ss_e s) _
    refine sv_if_ne (pc := 13) (tgt := 18) (sv_d k_X_rate 6 rfl) (by decide) ?_ ?_
    · refine sv_iload_n (pc := 18) 1 (sv_d k_X_rate 9 rfl) rfl rfl ?_
      refine sv_if_eq (pc := 19) (tgt := 40) (sv_d k_X_rate 10 rfl) (by decide) ?_ ?_
      · exact sv_loc [0, 1, 2, 3, 4, 5, 6, 7] rfl (V_X_rate_b40 E d x1 x2 x3 x4 x5 x6 x7 s)
      · refine sv_iload_n (pc := 22) 1 (sv_d k_X_rate 11 rfl) rfl rfl ?_
        refine sv_iconst (pc := 23) (v := (1 : Int32)) (sv_d k_X_rate 12 rfl) (by decide) ?_
        refine sv_icmp_eq (pc := 24) (tgt := 40) (sv_d k_X_rate 13 rfl) (by decide) ?_ ?_
        · exact sv_loc [0, 1, 2, 3, 4, 5, 6, 7] rfl (V_X_rate_b40 E d x1 x2 x3 x4 x5 x6 x7 s)
        · refine sv_iload_n (pc := 27) 1 (sv_d k_X_rate 14 rfl) rfl rfl ?_
          refine sv_iconst (pc := 28) (v := (3 : Int32)) (sv_d k_X_rate 15 rfl) (by decide) ?_
          refine sv_icmp_eq (pc := 29) (tgt := 40) (sv_d k_X_rate 16 rfl) (by decide) ?_ ?_
          · exact sv_loc [0, 1, 2, 3, 4, 5, 6, 7] rfl (V_X_rate_b40 E d x1 x2 x3 x4 x5 x6 x7 s)
          · refine sv_iload_n (pc := 32) 1 (sv_d k_X_rate 17 rfl) rfl rfl ?_
            refine sv_iconst (pc := 33) (v := (4 : Int32)) (sv_d k_X_rate 18 rfl) (by decide) ?_
            refine sv_icmp_eq (pc := 34) (tgt := 40) (sv_d k_X_rate 19 rfl) (by decide) ?_ ?_
            · exact sv_loc [0, 1, 2, 3, 4, 5, 6, 7] rfl (V_X_rate_b40 E d x1 x2 x3 x4 x5 x6 x7 s)
            · refine sv_bipush (pc := 37) (v := (-2 : Int32)) (sv_d k_X_rate 20 rfl) (by decide) ?_
              exact sv_ret (pc := 39) (sv_d k_X_rate 21 rfl) ⟨_, rfl, rfl⟩ rfl
    · refine sv_iconst (pc := 16) (v := (-1 : Int32)) (sv_d k_X_rate 7 rfl) (by decide) ?_
      exact sv_ret (pc := 17) (sv_d k_X_rate 8 rfl) ⟨_, rfl, rfl⟩ rfl
/-! X_special -/
abbrev m_X_special : sv_M := (yX11_special, cX11_special, 8, (some .int))
def t_X_special : List (Nat × Instr × Nat) := [(0, .iload_n 1, 1), (1, .invokestatic 89, 3), (4, .ifCond .eq 19, 3), (7, .iload_n 2, 1), (8, .iload_n 3, 1), (9, .invokestatic 93, 3), (12, .ifCond .eq 11, 3), (15, .iload 5, 2), (17, .invokestatic 168, 3), (20, .ifCond .ne 5, 3), (23, .iconst (-1), 1), (24, .ireturn, 1), (25, .iload_n 2, 1), (26, .iload_n 3, 1), (27, .if_icmp .eq 20, 3), (30, .iconst 2, 1), (31, .iload 4, 2), (33, .invokestatic 152, 3), (36, .ifCond .eq 11, 3), (39, .iload 6, 2), (41, .invokestatic 171, 3), (44, .ifCond .ne 6, 3), (47, .bipush (-2), 2), (49, .ireturn, 1), (50, .aload_n 0, 1), (51, .getfield 37, 3), (54, .invokevirtual 155, 3), (57, .ifCond .eq 6, 3), (60, .bipush (-4), 2), (62, .ireturn, 1), (63, .aload_n 0, 1), (64, .getfield 37, 3), (67, .iconst 2, 1), (68, .iload_n 1, 1), (69, .iload_n 2, 1), (70, .iload_n 3, 1), (71, .iload 4, 2), (73, .iload 5, 2), (75, .aload_n 0, 1), (76, .iload_n 1, 1), (77, .invokevirtual 156, 3), (80, .invokevirtual 165, 3), (83, .istore 7, 2), (85, .aload_n 0, 1), (86, .getfield 37, 3), (89, .iload 7, 2), (91, .invokevirtual 174, 3), (94, .iload 6, 2), (96, .putfield 178, 3), (99, .iload 7, 2), (101, .ireturn, 1)]
theorem k_X_special : sv_tk m_X_special.2.1 t_X_special := by decide +kernel
theorem g_X_special : sv_G m_X_special 6 := ⟨by decide +kernel, sv_in 827 (by decide +kernel) rfl, sv_in 90 (by decide +kernel) rfl, ⟨by decide, by decide⟩, by decide +kernel, by decide⟩
theorem in_X_special : Cond.instanceMethod m_X_special.1 ∈ sv_T := sv_in 825 (by decide +kernel) rfl
theorem se_X_special : Cond.selects m_X_special.1.cls m_X_special.1 m_X_special.1 ∈ sv_T := sv_in 826 (by decide +kernel) rfl
def F_X_special (x1 : Int32) (x2 : Int32) (x3 : Int32) (x4 : Int32) (x5 : Int32) (x6 : Int32) (s : sv_S) : Option (Int32 × sv_S) :=
  (F_X_isOwner x1 s).bind fun r1 =>
  if r1 = 0 then
    some ((-1 : Int32), s)
  else
  (F_X_areStations x2 x3 s).bind fun r2 =>
  if r2 = 0 then
    some ((-1 : Int32), s)
  else
  (F_X_isGood x5 s).bind fun r3 =>
  if r3 = 0 then
    some ((-1 : Int32), s)
  else
  if x2 = x3 then
    some ((-2 : Int32), s)
  else
  (F_X_isPence (2 : Int32) x4 s).bind fun r4 =>
  if r4 = 0 then
    some ((-2 : Int32), s)
  else
  (F_X_areTons x6 s).bind fun r5 =>
  if r5 = 0 then
    some ((-2 : Int32), s)
  else
  (F_Rs_areFull s).bind fun r6 =>
  if r6 = 0 then
    (F_X_soonest x1 s).bind fun r7 =>
    (F_Rs_add (2 : Int32) x1 x2 x3 x4 x5 r7.1 r7.2).bind fun r8 =>
    (F_Rs_row r8.1 r8.2).bind fun r9 =>
    if ss_ok2 r8.2 r9 5 = true then
      ss_let (ss_setI r8.2 r9 9 x6) fun s11 =>
      some (r8.1, s11)
    else none
  else
  some ((-4 : Int32), s)
theorem V_X_special (E : sv_E) (d : Nat) (x1 : Int32) (x2 : Int32) (x3 : Int32) (x4 : Int32) (x5 : Int32) (x6 : Int32) (s : sv_S) : sv_V E m_X_special (d + 3) ss_i 0 (lv_args 0 [sv_r E 64, .int x1, .int x2, .int x3, .int x4, .int x5, .int x6]) [] (ss_e s) (F_X_special x1 x2 x3 x4 x5 x6 s) := by
  show sv_V E m_X_special (d + 3) ss_i 0 [(0, sv_r E 64), (1, .int x1), (2, .int x2), (3, .int x3), (4, .int x4), (5, .int x5), (6, .int x6)] [] (ss_e s) _
  unfold F_X_special
  refine sv_iload_n (pc := 0) 1 (sv_d k_X_special 0 rfl) rfl rfl ?_
  refine sv_callS (pc := 1) (ψ := (ss_pi s)) (As := [.int x1]) (rest := []) (sv_d k_X_special 1 rfl) g_X_isOwner w558 st_X_isOwner rfl (Nat.le_of_ble_eq_true rfl) (V_X_isOwner E (d + 2) x1 s) (Nat.le_of_ble_eq_true rfl) rfl (fun r1 => ?_)
  show sv_V E _ _ _ 4 _ [.int r1] (ss_e s) _
  refine sv_if_eq (pc := 4) (tgt := 23) (sv_d k_X_special 2 rfl) (by decide) ?_ ?_
  · refine sv_iconst (pc := 23) (v := (-1 : Int32)) (sv_d k_X_special 10 rfl) (by decide) ?_
    exact sv_ret (pc := 24) (sv_d k_X_special 11 rfl) ⟨_, rfl, rfl⟩ rfl
  · refine sv_iload_n (pc := 7) 2 (sv_d k_X_special 3 rfl) rfl rfl ?_
    refine sv_iload_n (pc := 8) 3 (sv_d k_X_special 4 rfl) rfl rfl ?_
    refine sv_callS (pc := 9) (ψ := (ss_pi s)) (As := [.int x2, .int x3]) (rest := []) (sv_d k_X_special 5 rfl) g_X_areStations w561 st_X_areStations rfl (Nat.le_of_ble_eq_true rfl) (V_X_areStations E (d + 1) x2 x3 s) (Nat.le_of_ble_eq_true rfl) rfl (fun r2 => ?_)
    show sv_V E _ _ _ 12 _ [.int r2] (ss_e s) _
    refine sv_if_eq (pc := 12) (tgt := 23) (sv_d k_X_special 6 rfl) (by decide) ?_ ?_
    · refine sv_iconst (pc := 23) (v := (-1 : Int32)) (sv_d k_X_special 10 rfl) (by decide) ?_
      exact sv_ret (pc := 24) (sv_d k_X_special 11 rfl) ⟨_, rfl, rfl⟩ rfl
    · refine sv_iload (pc := 15) 5 (sv_d k_X_special 7 rfl) rfl ?_
      refine sv_callS (pc := 17) (ψ := (ss_pi s)) (As := [.int x5]) (rest := []) (sv_d k_X_special 8 rfl) g_X_isGood w828 st_X_isGood rfl (Nat.le_of_ble_eq_true rfl) (V_X_isGood E (d + 2) x5 s) (Nat.le_of_ble_eq_true rfl) rfl (fun r3 => ?_)
      show sv_V E _ _ _ 20 _ [.int r3] (ss_e s) _
      refine sv_if_ne (pc := 20) (tgt := 25) (sv_d k_X_special 9 rfl) (by decide) ?_ ?_
      · refine sv_iload_n (pc := 25) 2 (sv_d k_X_special 12 rfl) rfl rfl ?_
        refine sv_iload_n (pc := 26) 3 (sv_d k_X_special 13 rfl) rfl rfl ?_
        refine sv_icmp_eq (pc := 27) (tgt := 47) (sv_d k_X_special 14 rfl) (by decide) ?_ ?_
        · refine sv_bipush (pc := 47) (v := (-2 : Int32)) (sv_d k_X_special 22 rfl) (by decide) ?_
          exact sv_ret (pc := 49) (sv_d k_X_special 23 rfl) ⟨_, rfl, rfl⟩ rfl
        · refine sv_iconst (pc := 30) (v := (2 : Int32)) (sv_d k_X_special 15 rfl) (by decide) ?_
          refine sv_iload (pc := 31) 4 (sv_d k_X_special 16 rfl) rfl ?_
          refine sv_callS (pc := 33) (ψ := (ss_pi s)) (As := [.int (2 : Int32), .int x4]) (rest := []) (sv_d k_X_special 17 rfl) g_X_isPence w808 st_X_isPence rfl (Nat.le_of_ble_eq_true rfl) (V_X_isPence E (d + 2) (2 : Int32) x4 s) (Nat.le_of_ble_eq_true rfl) rfl (fun r4 => ?_)
          show sv_V E _ _ _ 36 _ [.int r4] (ss_e s) _
          refine sv_if_eq (pc := 36) (tgt := 47) (sv_d k_X_special 18 rfl) (by decide) ?_ ?_
          · refine sv_bipush (pc := 47) (v := (-2 : Int32)) (sv_d k_X_special 22 rfl) (by decide) ?_
            exact sv_ret (pc := 49) (sv_d k_X_special 23 rfl) ⟨_, rfl, rfl⟩ rfl
          · refine sv_iload (pc := 39) 6 (sv_d k_X_special 19 rfl) rfl ?_
            refine sv_callS (pc := 41) (ψ := (ss_pi s)) (As := [.int x6]) (rest := []) (sv_d k_X_special 20 rfl) g_X_areTons w831 st_X_areTons rfl (Nat.le_of_ble_eq_true rfl) (V_X_areTons E (d + 2) x6 s) (Nat.le_of_ble_eq_true rfl) rfl (fun r5 => ?_)
            show sv_V E _ _ _ 44 _ [.int r5] (ss_e s) _
            refine sv_if_ne (pc := 44) (tgt := 50) (sv_d k_X_special 21 rfl) (by decide) ?_ ?_
            · refine sv_aload_n (pc := 50) 0 (sv_d k_X_special 24 rfl) rfl rfl ?_
              refine sv_getf (pc := 51) 3 (sv_d k_X_special 25 rfl) cf11 (by decide) w519 kd64 (ss_lt (by decide)) (lr_64_3 E _) ?_
              refine sv_callV (pc := 54) (ψ := (ss_pi s)) (As := []) (rest := []) (c := 88) (sv_d k_X_special 26 rfl) g_Rs_areFull w811 in_Rs_areFull se_Rs_areFull cf6 kd88 (ss_lt (by decide)) rfl (Nat.le_of_ble_eq_true rfl) (V_Rs_areFull E (d + 2) s) (Nat.le_of_ble_eq_true rfl) rfl (fun r6 => ?_)
              show sv_V E _ _ _ 57 _ [.int r6] (ss_e s) _
              refine sv_if_eq (pc := 57) (tgt := 63) (sv_d k_X_special 27 rfl) (by decide) ?_ ?_
              · refine sv_aload_n (pc := 63) 0 (sv_d k_X_special 30 rfl) rfl rfl ?_
                refine sv_getf (pc := 64) 3 (sv_d k_X_special 31 rfl) cf11 (by decide) w519 kd64 (ss_lt (by decide)) (lr_64_3 E _) ?_
                refine sv_iconst (pc := 67) (v := (2 : Int32)) (sv_d k_X_special 32 rfl) (by decide) ?_
                refine sv_iload_n (pc := 68) 1 (sv_d k_X_special 33 rfl) rfl rfl ?_
                refine sv_iload_n (pc := 69) 2 (sv_d k_X_special 34 rfl) rfl rfl ?_
                refine sv_iload_n (pc := 70) 3 (sv_d k_X_special 35 rfl) rfl rfl ?_
                refine sv_iload (pc := 71) 4 (sv_d k_X_special 36 rfl) rfl ?_
                refine sv_iload (pc := 73) 5 (sv_d k_X_special 37 rfl) rfl ?_
                refine sv_aload_n (pc := 75) 0 (sv_d k_X_special 38 rfl) rfl rfl ?_
                refine sv_iload_n (pc := 76) 1 (sv_d k_X_special 39 rfl) rfl rfl ?_
                refine sv_callV (pc := 77) (ψ := ss_i) (As := [.int x1]) (rest := [.int x5, .int x4, .int x3, .int x2, .int x1, .int (2 : Int32), sv_r E 88]) (c := 64) (sv_d k_X_special 40 rfl) g_X_soonest w815 in_X_soonest se_X_soonest cf11 kd64 (ss_lt (by decide)) rfl (Nat.le_of_ble_eq_true rfl) (V_X_soonest E (d + 0) x1 s) (Nat.le_of_ble_eq_true rfl) rfl (fun r7 => ?_)
                show sv_V E _ _ _ 80 _ [.int r7.1, .int x5, .int x4, .int x3, .int x2, .int x1, .int (2 : Int32), sv_r E 88] (ss_e r7.2) _
                refine sv_callV (pc := 80) (ψ := ss_i) (As := [.int (2 : Int32), .int x1, .int x2, .int x3, .int x4, .int x5, .int r7.1]) (rest := []) (c := 88) (sv_d k_X_special 41 rfl) g_Rs_add w820 in_Rs_add se_Rs_add cf6 kd88 (ss_lt (by decide)) rfl (Nat.le_of_ble_eq_true rfl) (V_Rs_add E (d + 2) (2 : Int32) x1 x2 x3 x4 x5 r7.1 r7.2) (Nat.le_of_ble_eq_true rfl) rfl (fun r8 => ?_)
                show sv_V E _ _ _ 83 _ [.int r8.1] (ss_e r8.2) _
                refine sv_istore (pc := 83) (lv' := [(7, .int r8.1), (0, sv_r E 64), (1, .int x1), (2, .int x2), (3, .int x3), (4, .int x4), (5, .int x5), (6, .int x6)]) (sv_d k_X_special 42 rfl) (by decide) rfl ?_
                refine sv_aload_n (pc := 85) 1 (sv_d k_X_special 43 rfl) rfl rfl ?_
                refine sv_getf (pc := 86) 3 (sv_d k_X_special 44 rfl) cf11 (by decide) w519 kd64 (ss_lt (by decide)) (lr_64_3 E _) ?_
                refine sv_iload (pc := 89) 0 (sv_d k_X_special 45 rfl) rfl ?_
                refine sv_callV (pc := 91) (ψ := (ss_pq E r8.2)) (As := [.int r8.1]) (rest := []) (c := 88) (sv_d k_X_special 46 rfl) g_Rs_row w834 in_Rs_row se_Rs_row cf6 kd88 (ss_lt (by decide)) rfl (Nat.le_of_ble_eq_true rfl) (V_Rs_row E (d + 2) r8.1 r8.2) (Nat.le_of_ble_eq_true rfl) rfl (fun r9 => ?_)
                show sv_V E _ _ _ 94 _ [sv_r E r9] (ss_e r8.2) _
                refine ss_gd2 (fun h_g10 o_g10 l_g10 => ?_)
                refine sv_iload (pc := 94) 7 (sv_d k_X_special 47 rfl) rfl ?_
                refine ss_putN (pc := 96) 9 (sv_d k_X_special 48 rfl) cf5 (by decide) rfl w295 h_g10 l_g10 rfl rfl (fun _ => rfl) (ss_lets (fun s11 e_s11 => ?_))
                have l_g10 : r9 < 243 + s11.2.2.2.2.1 := by rw [e_s11]; exact l_g10
                refine sv_iload (pc := 99) 0 (sv_d k_X_special 49 rfl) rfl ?_
                exact sv_ret (pc := 101) (sv_d k_X_special 50 rfl) ⟨_, rfl, rfl⟩ rfl
              · refine sv_bipush (pc := 60) (v := (-4 : Int32)) (sv_d k_X_special 28 rfl) (by decide) ?_
                exact sv_ret (pc := 62) (sv_d k_X_special 29 rfl) ⟨_, rfl, rfl⟩ rfl
            · refine sv_bipush (pc := 47) (v := (-2 : Int32)) (sv_d k_X_special 22 rfl) (by decide) ?_
              exact sv_ret (pc := 49) (sv_d k_X_special 23 rfl) ⟨_, rfl, rfl⟩ rfl
      · refine sv_iconst (pc := 23) (v := (-1 : Int32)) (sv_d k_X_special 10 rfl) (by decide) ?_
        exact sv_ret (pc := 24) (sv_d k_X_special 11 rfl) ⟨_, rfl, rfl⟩ rfl
/-! X_withdraw -/
abbrev m_X_withdraw : sv_M := (yX11_withdraw, cX11_withdraw, 3, (some .int))
def t_X_withdraw : List (Nat × Instr × Nat) := [(0, .aload_n 0, 1), (1, .getfield 37, 3), (4, .iload_n 1, 1), (5, .invokevirtual 183, 3), (8, .ifCond .ne 5, 3), (11, .iconst (-1), 1), (12, .ireturn, 1), (13, .aload_n 0, 1), (14, .getfield 37, 3), (17, .iload_n 1, 1), (18, .invokevirtual 174, 3), (21, .astore_n 2, 1), (22, .aload_n 2, 1), (23, .getfield 186, 3), (26, .ifCond .ne 11, 3), (29, .aload_n 2, 1), (30, .getfield 190, 3), (33, .iconst 5, 1), (34, .if_icmp .ne 6, 3), (37, .bipush (-3), 2), (39, .ireturn, 1), (40, .aload_n 2, 1), (41, .aload_n 0, 1), (42, .getfield 86, 3), (45, .invokevirtual 193, 3), (48, .iconst 1, 1), (49, .ireturn, 1)]
theorem k_X_withdraw : sv_tk m_X_withdraw.2.1 t_X_withdraw := by decide +kernel
theorem g_X_withdraw : sv_G m_X_withdraw 1 := ⟨by decide +kernel, sv_in 841 (by decide +kernel) rfl, sv_in 90 (by decide +kernel) rfl, ⟨by decide, by decide⟩, by decide +kernel, by decide⟩
theorem in_X_withdraw : Cond.instanceMethod m_X_withdraw.1 ∈ sv_T := sv_in 839 (by decide +kernel) rfl
theorem se_X_withdraw : Cond.selects m_X_withdraw.1.cls m_X_withdraw.1 m_X_withdraw.1 ∈ sv_T := sv_in 840 (by decide +kernel) rfl
def F_X_withdraw (x1 : Int32) (s : sv_S) : Option (Int32 × sv_S) :=
  (F_Rs_has x1 s).bind fun r1 =>
  if r1 = 0 then
    some ((-1 : Int32), s)
  else
  (F_Rs_row x1 s).bind fun r2 =>
  if ss_ok2 s r2 5 = true then
    if (s.1 r2 11) = 0 then
      if (s.1 r2 1) = (5 : Int32) then
        some ((-3 : Int32), s)
      else
      (F_Ra_takeOut r2 (s.1 64 9) s).bind fun r4 =>
      some ((1 : Int32), r4)
    else
    some ((-3 : Int32), s)
  else none
theorem V_X_withdraw (E : sv_E) (d : Nat) (x1 : Int32) (s : sv_S) : sv_V E m_X_withdraw (d + 1) ss_i 0 (lv_args 0 [sv_r E 64, .int x1]) [] (ss_e s) (F_X_withdraw x1 s) := by
  show sv_V E m_X_withdraw (d + 1) ss_i 0 [(0, sv_r E 64), (1, .int x1)] [] (ss_e s) _
  unfold F_X_withdraw
  refine sv_aload_n (pc := 0) 0 (sv_d k_X_withdraw 0 rfl) rfl rfl ?_
  refine sv_getf (pc := 1) 3 (sv_d k_X_withdraw 1 rfl) cf11 (by decide) w519 kd64 (ss_lt (by decide)) (lr_64_3 E _) ?_
  refine sv_iload_n (pc := 4) 1 (sv_d k_X_withdraw 2 rfl) rfl rfl ?_
  refine sv_callV (pc := 5) (ψ := (ss_pi s)) (As := [.int x1]) (rest := []) (c := 88) (sv_d k_X_withdraw 3 rfl) g_Rs_has w842 in_Rs_has se_Rs_has cf6 kd88 (ss_lt (by decide)) rfl (Nat.le_of_ble_eq_true rfl) (V_Rs_has E (d + 0) x1 s) (Nat.le_of_ble_eq_true rfl) rfl (fun r1 => ?_)
  show sv_V E _ _ _ 8 _ [.int r1] (ss_e s) _
  refine sv_if_ne (pc := 8) (tgt := 13) (sv_d k_X_withdraw 4 rfl) (by decide) ?_ ?_
  · refine sv_aload_n (pc := 13) 0 (sv_d k_X_withdraw 7 rfl) rfl rfl ?_
    refine sv_getf (pc := 14) 3 (sv_d k_X_withdraw 8 rfl) cf11 (by decide) w519 kd64 (ss_lt (by decide)) (lr_64_3 E _) ?_
    refine sv_iload_n (pc := 17) 1 (sv_d k_X_withdraw 9 rfl) rfl rfl ?_
    refine sv_callV (pc := 18) (ψ := (ss_pq E s)) (As := [.int x1]) (rest := []) (c := 88) (sv_d k_X_withdraw 10 rfl) g_Rs_row w834 in_Rs_row se_Rs_row cf6 kd88 (ss_lt (by decide)) rfl (Nat.le_of_ble_eq_true rfl) (V_Rs_row E (d + 0) x1 s) (Nat.le_of_ble_eq_true rfl) rfl (fun r2 => ?_)
    show sv_V E _ _ _ 21 _ [sv_r E r2] (ss_e s) _
    refine ss_gd2 (fun h_g3 o_g3 l_g3 => ?_)
    refine sv_astore_n (pc := 21) (lv' := [(2, sv_r E r2), (0, sv_r E 64), (1, .int x1)]) (sv_d k_X_withdraw 11 rfl) rfl (by decide) rfl ?_
    refine sv_aload_n (pc := 22) 0 (sv_d k_X_withdraw 12 rfl) rfl rfl ?_
    refine sv_getN (pc := 23) 11 (sv_d k_X_withdraw 13 rfl) cf5 (by decide) w301 h_g3 l_g3 rfl ?_
    refine sv_if_ne (pc := 26) (tgt := 37) (sv_d k_X_withdraw 14 rfl) (by decide) ?_ ?_
    · refine sv_bipush (pc := 37) (v := (-3 : Int32)) (sv_d k_X_withdraw 19 rfl) (by decide) ?_
      exact sv_ret (pc := 39) (sv_d k_X_withdraw 20 rfl) ⟨_, rfl, rfl⟩ rfl
    · refine sv_aload_n (pc := 29) 0 (sv_d k_X_withdraw 15 rfl) rfl rfl ?_
      refine sv_getN (pc := 30) 1 (sv_d k_X_withdraw 16 rfl) cf5 (by decide) w264 h_g3 l_g3 rfl ?_
      refine sv_iconst (pc := 33) (v := (5 : Int32)) (sv_d k_X_withdraw 17 rfl) (by decide) ?_
      refine sv_icmp_ne (pc := 34) (tgt := 40) (sv_d k_X_withdraw 18 rfl) (by decide) ?_ ?_
      · refine sv_aload_n (pc := 40) 0 (sv_d k_X_withdraw 21 rfl) rfl rfl ?_
        refine sv_aload_n (pc := 41) 1 (sv_d k_X_withdraw 22 rfl) rfl rfl ?_
        refine sv_getf (pc := 42) 9 (sv_d k_X_withdraw 23 rfl) cf11 (by decide) w525 kd64 (ss_lt (by decide)) rfl ?_
        refine sv_callV (pc := 45) (ψ := ss_v) (As := [.int (s.1 64 9)]) (rest := []) (c := r2) (sv_d k_X_withdraw 24 rfl) g_Ra_takeOut w846 in_Ra_takeOut se_Ra_takeOut cf5 h_g3 l_g3 rfl (Nat.le_of_ble_eq_true rfl) (V_Ra_takeOut E (d + 0) r2 (s.1 64 9) s h_g3 o_g3 l_g3) (Nat.le_of_ble_eq_true rfl) rfl (fun r4 => ?_)
        show sv_V E _ _ _ 48 _ [] (ss_e r4) _
        refine sv_iconst (pc := 48) (v := (1 : Int32)) (sv_d k_X_withdraw 25 rfl) (by decide) ?_
        exact sv_ret (pc := 49) (sv_d k_X_withdraw 26 rfl) ⟨_, rfl, rfl⟩ rfl
      · refine sv_bipush (pc := 37) (v := (-3 : Int32)) (sv_d k_X_withdraw 19 rfl) (by decide) ?_
        exact sv_ret (pc := 39) (sv_d k_X_withdraw 20 rfl) ⟨_, rfl, rfl⟩ rfl
  · refine sv_iconst (pc := 11) (v := (-1 : Int32)) (sv_d k_X_withdraw 5 rfl) (by decide) ?_
    exact sv_ret (pc := 12) (sv_d k_X_withdraw 6 rfl) ⟨_, rfl, rfl⟩ rfl
/-! X_set -/
abbrev m_X_set : sv_M := (yX11_set, cX11_set, 6, (some .int))
def t_X_set : List (Nat × Instr × Nat) := [(0, .aload_n 0, 1), (1, .getfield 37, 3), (4, .iload_n 1, 1), (5, .invokevirtual 183, 3), (8, .ifCond .ne 5, 3), (11, .iconst (-1), 1), (12, .ireturn, 1), (13, .iconst 5, 1), (14, .iload_n 2, 1), (15, .invokestatic 152, 3), (18, .ifCond .ne 6, 3), (21, .bipush (-2), 2), (23, .ireturn, 1), (24, .aload_n 0, 1), (25, .getfield 37, 3), (28, .iload_n 1, 1), (29, .invokevirtual 174, 3), (32, .astore_n 3, 1), (33, .aload_n 3, 1), (34, .getfield 186, 3), (37, .ifCond .ne 11, 3), (40, .aload_n 3, 1), (41, .getfield 190, 3), (44, .iconst 5, 1), (45, .if_icmp .ne 6, 3), (48, .bipush (-3), 2), (50, .ireturn, 1), (51, .aload_n 0, 1), (52, .getfield 37, 3), (55, .invokevirtual 155, 3), (58, .ifCond .eq 6, 3), (61, .bipush (-4), 2), (63, .ireturn, 1), (64, .aload_n 0, 1), (65, .getfield 37, 3), (68, .aload_n 3, 1), (69, .aload_n 0, 1), (70, .getfield 86, 3), (73, .invokevirtual 197, 3), (76, .istore 4, 2), (78, .aload_n 0, 1), (79, .getfield 37, 3), (82, .iconst 5, 1), (83, .aload_n 3, 1), (84, .getfield 201, 3), (87, .aload_n 3, 1), (88, .getfield 204, 3), (91, .aload_n 3, 1), (92, .getfield 207, 3), (95, .iload_n 2, 1), (96, .iload 4, 2), (98, .aload_n 0, 1), (99, .getfield 86, 3), (102, .invokevirtual 165, 3), (105, .istore 5, 2), (107, .aload_n 0, 1), (108, .getfield 37, 3), (111, .iload 5, 2), (113, .invokevirtual 174, 3), (116, .iload_n 1, 1), (117, .putfield 210, 3), (120, .aload_n 3, 1), (121, .aload_n 0, 1), (122, .getfield 86, 3), (125, .invokevirtual 193, 3), (128, .iload 5, 2), (130, .ireturn, 1)]
theorem k_X_set : sv_tk m_X_set.2.1 t_X_set := by decide +kernel
theorem g_X_set : sv_G m_X_set 2 := ⟨by decide +kernel, sv_in 853 (by decide +kernel) rfl, sv_in 90 (by decide +kernel) rfl, ⟨by decide, by decide⟩, by decide +kernel, by decide⟩
theorem in_X_set : Cond.instanceMethod m_X_set.1 ∈ sv_T := sv_in 851 (by decide +kernel) rfl
theorem se_X_set : Cond.selects m_X_set.1.cls m_X_set.1 m_X_set.1 ∈ sv_T := sv_in 852 (by decide +kernel) rfl
def F_X_set (x1 : Int32) (x2 : Int32) (s : sv_S) : Option (Int32 × sv_S) :=
  (F_Rs_has x1 s).bind fun r1 =>
  if r1 = 0 then
    some ((-1 : Int32), s)
  else
  (F_X_isPence (5 : Int32) x2 s).bind fun r2 =>
  if r2 = 0 then
    some ((-2 : Int32), s)
  else
  (F_Rs_row x1 s).bind fun r3 =>
  if ss_ok2 s r3 5 = true then
    if (s.1 r3 11) = 0 then
      if (s.1 r3 1) = (5 : Int32) then
        some ((-3 : Int32), s)
      else
      (F_Rs_areFull s).bind fun r5 =>
      if r5 = 0 then
        (F_Rs_classOf r3 (s.1 64 9) s).bind fun r6 =>
        (F_Rs_add (5 : Int32) (r6.2.1 r3 2) (r6.2.1 r3 3) (r6.2.1 r3 4) x2 r6.1 (r6.2.1 64 9) r6.2).bind fun r7 =>
        (F_Rs_row r7.1 r7.2).bind fun r8 =>
        if ss_ok2 r7.2 r8 5 = true then
          ss_let (ss_setI r7.2 r8 10 x1) fun s10 =>
          (F_Ra_takeOut r3 (s10.1 64 9) s10).bind fun r11 =>
          some (r7.1, r11)
        else none
      else
      some ((-4 : Int32), s)
    else
    some ((-3 : Int32), s)
  else none
theorem V_X_set (E : sv_E) (d : Nat) (x1 : Int32) (x2 : Int32) (s : sv_S) : sv_V E m_X_set (d + 3) ss_i 0 (lv_args 0 [sv_r E 64, .int x1, .int x2]) [] (ss_e s) (F_X_set x1 x2 s) := by
  show sv_V E m_X_set (d + 3) ss_i 0 [(0, sv_r E 64), (1, .int x1), (2, .int x2)] [] (ss_e s) _
  unfold F_X_set
  refine sv_aload_n (pc := 0) 0 (sv_d k_X_set 0 rfl) rfl rfl ?_
  refine sv_getf (pc := 1) 3 (sv_d k_X_set 1 rfl) cf11 (by decide) w519 kd64 (ss_lt (by decide)) (lr_64_3 E _) ?_
  refine sv_iload_n (pc := 4) 1 (sv_d k_X_set 2 rfl) rfl rfl ?_
  refine sv_callV (pc := 5) (ψ := (ss_pi s)) (As := [.int x1]) (rest := []) (c := 88) (sv_d k_X_set 3 rfl) g_Rs_has w842 in_Rs_has se_Rs_has cf6 kd88 (ss_lt (by decide)) rfl (Nat.le_of_ble_eq_true rfl) (V_Rs_has E (d + 2) x1 s) (Nat.le_of_ble_eq_true rfl) rfl (fun r1 => ?_)
  show sv_V E _ _ _ 8 _ [.int r1] (ss_e s) _
  refine sv_if_ne (pc := 8) (tgt := 13) (sv_d k_X_set 4 rfl) (by decide) ?_ ?_
  · refine sv_iconst (pc := 13) (v := (5 : Int32)) (sv_d k_X_set 7 rfl) (by decide) ?_
    refine sv_iload_n (pc := 14) 2 (sv_d k_X_set 8 rfl) rfl rfl ?_
    refine sv_callS (pc := 15) (ψ := (ss_pi s)) (As := [.int (5 : Int32), .int x2]) (rest := []) (sv_d k_X_set 9 rfl) g_X_isPence w808 st_X_isPence rfl (Nat.le_of_ble_eq_true rfl) (V_X_isPence E (d + 2) (5 : Int32) x2 s) (Nat.le_of_ble_eq_true rfl) rfl (fun r2 => ?_)
    show sv_V E _ _ _ 18 _ [.int r2] (ss_e s) _
    refine sv_if_ne (pc := 18) (tgt := 24) (sv_d k_X_set 10 rfl) (by decide) ?_ ?_
    · refine sv_aload_n (pc := 24) 0 (sv_d k_X_set 13 rfl) rfl rfl ?_
      refine sv_getf (pc := 25) 3 (sv_d k_X_set 14 rfl) cf11 (by decide) w519 kd64 (ss_lt (by decide)) (lr_64_3 E _) ?_
      refine sv_iload_n (pc := 28) 1 (sv_d k_X_set 15 rfl) rfl rfl ?_
      refine sv_callV (pc := 29) (ψ := (ss_pq E s)) (As := [.int x1]) (rest := []) (c := 88) (sv_d k_X_set 16 rfl) g_Rs_row w834 in_Rs_row se_Rs_row cf6 kd88 (ss_lt (by decide)) rfl (Nat.le_of_ble_eq_true rfl) (V_Rs_row E (d + 2) x1 s) (Nat.le_of_ble_eq_true rfl) rfl (fun r3 => ?_)
      show sv_V E _ _ _ 32 _ [sv_r E r3] (ss_e s) _
      refine ss_gd2 (fun h_g4 o_g4 l_g4 => ?_)
      refine sv_astore_n (pc := 32) (lv' := [(3, sv_r E r3), (0, sv_r E 64), (1, .int x1), (2, .int x2)]) (sv_d k_X_set 17 rfl) rfl (by decide) rfl ?_
      refine sv_aload_n (pc := 33) 0 (sv_d k_X_set 18 rfl) rfl rfl ?_
      refine sv_getN (pc := 34) 11 (sv_d k_X_set 19 rfl) cf5 (by decide) w301 h_g4 l_g4 rfl ?_
      refine sv_if_ne (pc := 37) (tgt := 48) (sv_d k_X_set 20 rfl) (by decide) ?_ ?_
      · refine sv_bipush (pc := 48) (v := (-3 : Int32)) (sv_d k_X_set 25 rfl) (by decide) ?_
        exact sv_ret (pc := 50) (sv_d k_X_set 26 rfl) ⟨_, rfl, rfl⟩ rfl
      · refine sv_aload_n (pc := 40) 0 (sv_d k_X_set 21 rfl) rfl rfl ?_
        refine sv_getN (pc := 41) 1 (sv_d k_X_set 22 rfl) cf5 (by decide) w264 h_g4 l_g4 rfl ?_
        refine sv_iconst (pc := 44) (v := (5 : Int32)) (sv_d k_X_set 23 rfl) (by decide) ?_
        refine sv_icmp_ne (pc := 45) (tgt := 51) (sv_d k_X_set 24 rfl) (by decide) ?_ ?_
        · refine sv_aload_n (pc := 51) 1 (sv_d k_X_set 27 rfl) rfl rfl ?_
          refine sv_getf (pc := 52) 3 (sv_d k_X_set 28 rfl) cf11 (by decide) w519 kd64 (ss_lt (by decide)) (lr_64_3 E _) ?_
          refine sv_callV (pc := 55) (ψ := (ss_pi s)) (As := []) (rest := []) (c := 88) (sv_d k_X_set 29 rfl) g_Rs_areFull w811 in_Rs_areFull se_Rs_areFull cf6 kd88 (ss_lt (by decide)) rfl (Nat.le_of_ble_eq_true rfl) (V_Rs_areFull E (d + 2) s) (Nat.le_of_ble_eq_true rfl) rfl (fun r5 => ?_)
          show sv_V E _ _ _ 58 _ [.int r5] (ss_e s) _
          refine sv_if_eq (pc := 58) (tgt := 64) (sv_d k_X_set 30 rfl) (by decide) ?_ ?_
          · refine sv_aload_n (pc := 64) 1 (sv_d k_X_set 33 rfl) rfl rfl ?_
            refine sv_getf (pc := 65) 3 (sv_d k_X_set 34 rfl) cf11 (by decide) w519 kd64 (ss_lt (by decide)) (lr_64_3 E _) ?_
            refine sv_aload_n (pc := 68) 0 (sv_d k_X_set 35 rfl) rfl rfl ?_
            refine sv_aload_n (pc := 69) 1 (sv_d k_X_set 36 rfl) rfl rfl ?_
            refine sv_getf (pc := 70) 9 (sv_d k_X_set 37 rfl) cf11 (by decide) w525 kd64 (ss_lt (by decide)) rfl ?_
            refine sv_callV (pc := 73) (ψ := ss_i) (As := [sv_r E r3, .int (s.1 64 9)]) (rest := []) (c := 88) (sv_d k_X_set 38 rfl) g_Rs_classOf w854 in_Rs_classOf se_Rs_classOf cf6 kd88 (ss_lt (by decide)) rfl (Nat.le_of_ble_eq_true rfl) (V_Rs_classOf E (d + 0) r3 (s.1 64 9) s h_g4 o_g4 l_g4) (Nat.le_of_ble_eq_true rfl) rfl (fun r6 => ?_)
            show sv_V E _ _ _ 76 _ [.int r6.1] (ss_e r6.2) _
            refine sv_istore (pc := 76) (lv' := [(4, .int r6.1), (3, sv_r E r3), (0, sv_r E 64), (1, .int x1), (2, .int x2)]) (sv_d k_X_set 39 rfl) (by decide) rfl ?_
            refine sv_aload_n (pc := 78) 2 (sv_d k_X_set 40 rfl) rfl rfl ?_
            refine sv_getf (pc := 79) 3 (sv_d k_X_set 41 rfl) cf11 (by decide) w519 kd64 (ss_lt (by decide)) (lr_64_3 E _) ?_
            refine sv_iconst (pc := 82) (v := (5 : Int32)) (sv_d k_X_set 42 rfl) (by decide) ?_
            refine sv_aload_n (pc := 83) 1 (sv_d k_X_set 43 rfl) rfl rfl ?_
            refine sv_getN (pc := 84) 2 (sv_d k_X_set 44 rfl) cf5 (by decide) w270 h_g4 (ss_l5 h_g4) rfl ?_
            refine sv_aload_n (pc := 87) 1 (sv_d k_X_set 45 rfl) rfl rfl ?_
            refine sv_getN (pc := 88) 3 (sv_d k_X_set 46 rfl) cf5 (by decide) w275 h_g4 (ss_l5 h_g4) rfl ?_
            refine sv_aload_n (pc := 91) 1 (sv_d k_X_set 47 rfl) rfl rfl ?_
            refine sv_getN (pc := 92) 4 (sv_d k_X_set 48 rfl) cf5 (by decide) w280 h_g4 (ss_l5 h_g4) rfl ?_
            refine sv_iload_n (pc := 95) 4 (sv_d k_X_set 49 rfl) rfl rfl ?_
            refine sv_iload (pc := 96) 0 (sv_d k_X_set 50 rfl) rfl ?_
            refine sv_aload_n (pc := 98) 2 (sv_d k_X_set 51 rfl) rfl rfl ?_
            refine sv_getf (pc := 99) 9 (sv_d k_X_set 52 rfl) cf11 (by decide) w525 kd64 (ss_lt (by decide)) rfl ?_
            refine sv_callV (pc := 102) (ψ := ss_i) (As := [.int (5 : Int32), .int (r6.2.1 r3 2), .int (r6.2.1 r3 3), .int (r6.2.1 r3 4), .int x2, .int r6.1, .int (r6.2.1 64 9)]) (rest := []) (c := 88) (sv_d k_X_set 53 rfl) g_Rs_add w820 in_Rs_add se_Rs_add cf6 kd88 (ss_lt (by decide)) rfl (Nat.le_of_ble_eq_true rfl) (V_Rs_add E (d + 2) (5 : Int32) (r6.2.1 r3 2) (r6.2.1 r3 3) (r6.2.1 r3 4) x2 r6.1 (r6.2.1 64 9) r6.2) (Nat.le_of_ble_eq_true rfl) rfl (fun r7 => ?_)
            show sv_V E _ _ _ 105 _ [.int r7.1] (ss_e r7.2) _
            refine sv_istore (pc := 105) (lv' := [(5, .int r7.1), (4, .int r6.1), (3, sv_r E r3), (0, sv_r E 64), (1, .int x1), (2, .int x2)]) (sv_d k_X_set 54 rfl) (by decide) rfl ?_
            refine sv_aload_n (pc := 107) 3 (sv_d k_X_set 55 rfl) rfl rfl ?_
            refine sv_getf (pc := 108) 3 (sv_d k_X_set 56 rfl) cf11 (by decide) w519 kd64 (ss_lt (by decide)) (lr_64_3 E _) ?_
            refine sv_iload (pc := 111) 0 (sv_d k_X_set 57 rfl) rfl ?_
            refine sv_callV (pc := 113) (ψ := (ss_pq E r7.2)) (As := [.int r7.1]) (rest := []) (c := 88) (sv_d k_X_set 58 rfl) g_Rs_row w834 in_Rs_row se_Rs_row cf6 kd88 (ss_lt (by decide)) rfl (Nat.le_of_ble_eq_true rfl) (V_Rs_row E (d + 2) r7.1 r7.2) (Nat.le_of_ble_eq_true rfl) rfl (fun r8 => ?_)
            show sv_V E _ _ _ 116 _ [sv_r E r8] (ss_e r7.2) _
            refine ss_gd2 (fun h_g9 o_g9 l_g9 => ?_)
            refine sv_iload_n (pc := 116) 4 (sv_d k_X_set 59 rfl) rfl rfl ?_
            refine ss_putN (pc := 117) 10 (sv_d k_X_set 60 rfl) cf5 (by decide) rfl w298 h_g9 l_g9 rfl rfl (fun _ => rfl) (ss_lets (fun s10 e_s10 => ?_))
            have l_g9 : r8 < 243 + s10.2.2.2.2.1 := by rw [e_s10]; exact l_g9
            refine sv_aload_n (pc := 120) 2 (sv_d k_X_set 61 rfl) rfl rfl ?_
            refine sv_aload_n (pc := 121) 3 (sv_d k_X_set 62 rfl) rfl rfl ?_
            refine sv_getf (pc := 122) 9 (sv_d k_X_set 63 rfl) cf11 (by decide) w525 kd64 (ss_lt (by decide)) rfl ?_
            refine sv_callV (pc := 125) (ψ := ss_v) (As := [.int (s10.1 64 9)]) (rest := []) (c := r3) (sv_d k_X_set 64 rfl) g_Ra_takeOut w846 in_Ra_takeOut se_Ra_takeOut cf5 h_g4 (ss_l5 h_g4) rfl (Nat.le_of_ble_eq_true rfl) (V_Ra_takeOut E (d + 2) r3 (s10.1 64 9) s10 h_g4 o_g4 (ss_l5 h_g4)) (Nat.le_of_ble_eq_true rfl) rfl (fun r11 => ?_)
            show sv_V E _ _ _ 128 _ [] (ss_e r11) _
            refine sv_iload (pc := 128) 0 (sv_d k_X_set 65 rfl) rfl ?_
            exact sv_ret (pc := 130) (sv_d k_X_set 66 rfl) ⟨_, rfl, rfl⟩ rfl
          · refine sv_bipush (pc := 61) (v := (-4 : Int32)) (sv_d k_X_set 31 rfl) (by decide) ?_
            exact sv_ret (pc := 63) (sv_d k_X_set 32 rfl) ⟨_, rfl, rfl⟩ rfl
        · refine sv_bipush (pc := 48) (v := (-3 : Int32)) (sv_d k_X_set 25 rfl) (by decide) ?_
          exact sv_ret (pc := 50) (sv_d k_X_set 26 rfl) ⟨_, rfl, rfl⟩ rfl
    · refine sv_bipush (pc := 21) (v := (-2 : Int32)) (sv_d k_X_set 11 rfl) (by decide) ?_
      exact sv_ret (pc := 23) (sv_d k_X_set 12 rfl) ⟨_, rfl, rfl⟩ rfl
  · refine sv_iconst (pc := 11) (v := (-1 : Int32)) (sv_d k_X_set 5 rfl) (by decide) ?_
    exact sv_ret (pc := 12) (sv_d k_X_set 6 rfl) ⟨_, rfl, rfl⟩ rfl
/-! X_undo -/
abbrev m_X_undo : sv_M := (yX11_undo, cX11_undo, 3, (some .int))
def t_X_undo : List (Nat × Instr × Nat) := [(0, .aload_n 0, 1), (1, .getfield 37, 3), (4, .iload_n 1, 1), (5, .invokevirtual 183, 3), (8, .ifCond .ne 5, 3), (11, .iconst (-1), 1), (12, .ireturn, 1), (13, .aload_n 0, 1), (14, .getfield 37, 3), (17, .iload_n 1, 1), (18, .invokevirtual 174, 3), (21, .astore_n 2, 1), (22, .aload_n 2, 1), (23, .invokevirtual 213, 3), (26, .iconst 5, 1), (27, .if_icmp .ne 17, 3), (30, .aload_n 0, 1), (31, .getfield 37, 3), (34, .aload_n 2, 1), (35, .getfield 210, 3), (38, .invokevirtual 183, 3), (41, .ifCond .ne 6, 3), (44, .bipush (-12), 2), (46, .ireturn, 1), (47, .aload_n 2, 1), (48, .aload_n 0, 1), (49, .getfield 86, 3), (52, .invokevirtual 193, 3), (55, .aload_n 0, 1), (56, .getfield 37, 3), (59, .aload_n 2, 1), (60, .getfield 210, 3), (63, .invokevirtual 174, 3), (66, .invokevirtual 217, 3), (69, .aload_n 2, 1), (70, .getfield 210, 3), (73, .ireturn, 1)]
theorem k_X_undo : sv_tk m_X_undo.2.1 t_X_undo := by decide +kernel
theorem g_X_undo : sv_G m_X_undo 1 := ⟨by decide +kernel, sv_in 862 (by decide +kernel) rfl, sv_in 90 (by decide +kernel) rfl, ⟨by decide, by decide⟩, by decide +kernel, by decide⟩
theorem in_X_undo : Cond.instanceMethod m_X_undo.1 ∈ sv_T := sv_in 860 (by decide +kernel) rfl
theorem se_X_undo : Cond.selects m_X_undo.1.cls m_X_undo.1 m_X_undo.1 ∈ sv_T := sv_in 861 (by decide +kernel) rfl
def F_X_undo (x1 : Int32) (s : sv_S) : Option (Int32 × sv_S) :=
  (F_Rs_has x1 s).bind fun r1 =>
  if r1 = 0 then
    some ((-1 : Int32), s)
  else
  (F_Rs_row x1 s).bind fun r2 =>
  if ss_ok2 s r2 5 = true then
    (F_Ra_kind r2 s).bind fun r4 =>
    if r4 = (5 : Int32) then
      (F_Rs_has (s.1 r2 10) s).bind fun r5 =>
      if r5 = 0 then
        some ((-12 : Int32), s)
      else
      (F_Ra_takeOut r2 (s.1 64 9) s).bind fun r6 =>
      (F_Rs_row (r6.1 r2 10) r6).bind fun r7 =>
      if ss_ok2 r6 r7 5 = true then
        (F_Ra_putBack r7 r6).bind fun r9 =>
        some (r9.1 r2 10, r9)
      else none
    else
    some ((-12 : Int32), s)
  else none
theorem V_X_undo (E : sv_E) (d : Nat) (x1 : Int32) (s : sv_S) : sv_V E m_X_undo (d + 1) ss_i 0 (lv_args 0 [sv_r E 64, .int x1]) [] (ss_e s) (F_X_undo x1 s) := by
  show sv_V E m_X_undo (d + 1) ss_i 0 [(0, sv_r E 64), (1, .int x1)] [] (ss_e s) _
  unfold F_X_undo
  refine sv_aload_n (pc := 0) 0 (sv_d k_X_undo 0 rfl) rfl rfl ?_
  refine sv_getf (pc := 1) 3 (sv_d k_X_undo 1 rfl) cf11 (by decide) w519 kd64 (ss_lt (by decide)) (lr_64_3 E _) ?_
  refine sv_iload_n (pc := 4) 1 (sv_d k_X_undo 2 rfl) rfl rfl ?_
  refine sv_callV (pc := 5) (ψ := (ss_pi s)) (As := [.int x1]) (rest := []) (c := 88) (sv_d k_X_undo 3 rfl) g_Rs_has w842 in_Rs_has se_Rs_has cf6 kd88 (ss_lt (by decide)) rfl (Nat.le_of_ble_eq_true rfl) (V_Rs_has E (d + 0) x1 s) (Nat.le_of_ble_eq_true rfl) rfl (fun r1 => ?_)
  show sv_V E _ _ _ 8 _ [.int r1] (ss_e s) _
  refine sv_if_ne (pc := 8) (tgt := 13) (sv_d k_X_undo 4 rfl) (by decide) ?_ ?_
  · refine sv_aload_n (pc := 13) 0 (sv_d k_X_undo 7 rfl) rfl rfl ?_
    refine sv_getf (pc := 14) 3 (sv_d k_X_undo 8 rfl) cf11 (by decide) w519 kd64 (ss_lt (by decide)) (lr_64_3 E _) ?_
    refine sv_iload_n (pc := 17) 1 (sv_d k_X_undo 9 rfl) rfl rfl ?_
    refine sv_callV (pc := 18) (ψ := (ss_pq E s)) (As := [.int x1]) (rest := []) (c := 88) (sv_d k_X_undo 10 rfl) g_Rs_row w834 in_Rs_row se_Rs_row cf6 kd88 (ss_lt (by decide)) rfl (Nat.le_of_ble_eq_true rfl) (V_Rs_row E (d + 0) x1 s) (Nat.le_of_ble_eq_true rfl) rfl (fun r2 => ?_)
    show sv_V E _ _ _ 21 _ [sv_r E r2] (ss_e s) _
    refine ss_gd2 (fun h_g3 o_g3 l_g3 => ?_)
    refine sv_astore_n (pc := 21) (lv' := [(2, sv_r E r2), (0, sv_r E 64), (1, .int x1)]) (sv_d k_X_undo 11 rfl) rfl (by decide) rfl ?_
    refine sv_aload_n (pc := 22) 0 (sv_d k_X_undo 12 rfl) rfl rfl ?_
    refine sv_callV (pc := 23) (ψ := (ss_pi s)) (As := []) (rest := []) (c := r2) (sv_d k_X_undo 13 rfl) g_Ra_kind w863 in_Ra_kind se_Ra_kind cf5 h_g3 l_g3 rfl (Nat.le_of_ble_eq_true rfl) (V_Ra_kind E (d + 0) r2 s h_g3 o_g3 l_g3) (Nat.le_of_ble_eq_true rfl) rfl (fun r4 => ?_)
    show sv_V E _ _ _ 26 _ [.int r4] (ss_e s) _
    refine sv_iconst (pc := 26) (v := (5 : Int32)) (sv_d k_X_undo 14 rfl) (by decide) ?_
    refine sv_icmp_ne (pc := 27) (tgt := 44) (sv_d k_X_undo 15 rfl) (by decide) ?_ ?_
    · refine sv_bipush (pc := 44) (v := (-12 : Int32)) (sv_d k_X_undo 22 rfl) (by decide) ?_
      exact sv_ret (pc := 46) (sv_d k_X_undo 23 rfl) ⟨_, rfl, rfl⟩ rfl
    · refine sv_aload_n (pc := 30) 1 (sv_d k_X_undo 16 rfl) rfl rfl ?_
      refine sv_getf (pc := 31) 3 (sv_d k_X_undo 17 rfl) cf11 (by decide) w519 kd64 (ss_lt (by decide)) (lr_64_3 E _) ?_
      refine sv_aload_n (pc := 34) 0 (sv_d k_X_undo 18 rfl) rfl rfl ?_
      refine sv_getN (pc := 35) 10 (sv_d k_X_undo 19 rfl) cf5 (by decide) w298 h_g3 l_g3 rfl ?_
      refine sv_callV (pc := 38) (ψ := (ss_pi s)) (As := [.int (s.1 r2 10)]) (rest := []) (c := 88) (sv_d k_X_undo 20 rfl) g_Rs_has w842 in_Rs_has se_Rs_has cf6 kd88 (ss_lt (by decide)) rfl (Nat.le_of_ble_eq_true rfl) (V_Rs_has E (d + 0) (s.1 r2 10) s) (Nat.le_of_ble_eq_true rfl) rfl (fun r5 => ?_)
      show sv_V E _ _ _ 41 _ [.int r5] (ss_e s) _
      refine sv_if_ne (pc := 41) (tgt := 47) (sv_d k_X_undo 21 rfl) (by decide) ?_ ?_
      · refine sv_aload_n (pc := 47) 0 (sv_d k_X_undo 24 rfl) rfl rfl ?_
        refine sv_aload_n (pc := 48) 1 (sv_d k_X_undo 25 rfl) rfl rfl ?_
        refine sv_getf (pc := 49) 9 (sv_d k_X_undo 26 rfl) cf11 (by decide) w525 kd64 (ss_lt (by decide)) rfl ?_
        refine sv_callV (pc := 52) (ψ := ss_v) (As := [.int (s.1 64 9)]) (rest := []) (c := r2) (sv_d k_X_undo 27 rfl) g_Ra_takeOut w846 in_Ra_takeOut se_Ra_takeOut cf5 h_g3 l_g3 rfl (Nat.le_of_ble_eq_true rfl) (V_Ra_takeOut E (d + 0) r2 (s.1 64 9) s h_g3 o_g3 l_g3) (Nat.le_of_ble_eq_true rfl) rfl (fun r6 => ?_)
        show sv_V E _ _ _ 55 _ [] (ss_e r6) _
        refine sv_aload_n (pc := 55) 1 (sv_d k_X_undo 28 rfl) rfl rfl ?_
        refine sv_getf (pc := 56) 3 (sv_d k_X_undo 29 rfl) cf11 (by decide) w519 kd64 (ss_lt (by decide)) (lr_64_3 E _) ?_
        refine sv_aload_n (pc := 59) 0 (sv_d k_X_undo 30 rfl) rfl rfl ?_
        refine sv_getN (pc := 60) 10 (sv_d k_X_undo 31 rfl) cf5 (by decide) w298 h_g3 (ss_l5 h_g3) rfl ?_
        refine sv_callV (pc := 63) (ψ := (ss_pq E r6)) (As := [.int (r6.1 r2 10)]) (rest := []) (c := 88) (sv_d k_X_undo 32 rfl) g_Rs_row w834 in_Rs_row se_Rs_row cf6 kd88 (ss_lt (by decide)) rfl (Nat.le_of_ble_eq_true rfl) (V_Rs_row E (d + 0) (r6.1 r2 10) r6) (Nat.le_of_ble_eq_true rfl) rfl (fun r7 => ?_)
        show sv_V E _ _ _ 66 _ [sv_r E r7] (ss_e r6) _
        refine ss_gd2 (fun h_g8 o_g8 l_g8 => ?_)
        refine sv_callV (pc := 66) (ψ := ss_v) (As := []) (rest := []) (c := r7) (sv_d k_X_undo 33 rfl) g_Ra_putBack w867 in_Ra_putBack se_Ra_putBack cf5 h_g8 l_g8 rfl (Nat.le_of_ble_eq_true rfl) (V_Ra_putBack E (d + 0) r7 r6 h_g8 o_g8 l_g8) (Nat.le_of_ble_eq_true rfl) rfl (fun r9 => ?_)
        show sv_V E _ _ _ 69 _ [] (ss_e r9) _
        refine sv_aload_n (pc := 69) 0 (sv_d k_X_undo 34 rfl) rfl rfl ?_
        refine sv_getN (pc := 70) 10 (sv_d k_X_undo 35 rfl) cf5 (by decide) w298 h_g3 (ss_l5 h_g3) rfl ?_
        exact sv_ret (pc := 73) (sv_d k_X_undo 36 rfl) ⟨_, rfl, rfl⟩ rfl
      · refine sv_bipush (pc := 44) (v := (-12 : Int32)) (sv_d k_X_undo 22 rfl) (by decide) ?_
        exact sv_ret (pc := 46) (sv_d k_X_undo 23 rfl) ⟨_, rfl, rfl⟩ rfl
  · refine sv_iconst (pc := 11) (v := (-1 : Int32)) (sv_d k_X_undo 5 rfl) (by decide) ?_
    exact sv_ret (pc := 12) (sv_d k_X_undo 6 rfl) ⟨_, rfl, rfl⟩ rfl
/-! X_of -/
abbrev m_X_of : sv_M := (yX11_of, cX11_of, 3, (some .int))
def t_X_of : List (Nat × Instr × Nat) := [(0, .aload_n 0, 1), (1, .getfield 37, 3), (4, .iload_n 1, 1), (5, .invokevirtual 183, 3), (8, .ifCond .eq 18, 3), (11, .aload_n 0, 1), (12, .getfield 37, 3), (15, .iload_n 1, 1), (16, .invokevirtual 174, 3), (19, .iload_n 2, 1), (20, .invokevirtual 220, 3), (23, .goto 5, 3), (26, .bipush (-5), 2), (28, .ireturn, 1)]
theorem k_X_of : sv_tk m_X_of.2.1 t_X_of := by decide +kernel
theorem g_X_of : sv_G m_X_of 2 := ⟨by decide +kernel, sv_in 874 (by decide +kernel) rfl, sv_in 90 (by decide +kernel) rfl, ⟨by decide, by decide⟩, by decide +kernel, by decide⟩
theorem in_X_of : Cond.instanceMethod m_X_of.1 ∈ sv_T := sv_in 872 (by decide +kernel) rfl
theorem se_X_of : Cond.selects m_X_of.1.cls m_X_of.1 m_X_of.1 ∈ sv_T := sv_in 873 (by decide +kernel) rfl
def F_X_of (x1 : Int32) (x2 : Int32) (s : sv_S) : Option (Int32) :=
  (F_Rs_has x1 s).bind fun r1 =>
  if r1 = 0 then
    some (-5 : Int32)
  else
  (F_Rs_row x1 s).bind fun r2 =>
  if ss_ok2 s r2 5 = true then
    (F_Ra_fact r2 x2 s).bind fun r4 =>
    some r4
  else none
theorem V_X_of (E : sv_E) (d : Nat) (x1 : Int32) (x2 : Int32) (s : sv_S) : sv_V E m_X_of (d + 2) (ss_pi s) 0 (lv_args 0 [sv_r E 64, .int x1, .int x2]) [] (ss_e s) (F_X_of x1 x2 s) := by
  show sv_V E m_X_of (d + 2) (ss_pi s) 0 [(0, sv_r E 64), (1, .int x1), (2, .int x2)] [] (ss_e s) _
  unfold F_X_of
  refine sv_aload_n (pc := 0) 0 (sv_d k_X_of 0 rfl) rfl rfl ?_
  refine sv_getf (pc := 1) 3 (sv_d k_X_of 1 rfl) cf11 (by decide) w519 kd64 (ss_lt (by decide)) (lr_64_3 E _) ?_
  refine sv_iload_n (pc := 4) 1 (sv_d k_X_of 2 rfl) rfl rfl ?_
  refine sv_callV (pc := 5) (ψ := (ss_pi s)) (As := [.int x1]) (rest := []) (c := 88) (sv_d k_X_of 3 rfl) g_Rs_has w842 in_Rs_has se_Rs_has cf6 kd88 (ss_lt (by decide)) rfl (Nat.le_of_ble_eq_true rfl) (V_Rs_has E (d + 1) x1 s) (Nat.le_of_ble_eq_true rfl) rfl (fun r1 => ?_)
  show sv_V E _ _ _ 8 _ [.int r1] (ss_e s) _
  refine sv_if_eq (pc := 8) (tgt := 26) (sv_d k_X_of 4 rfl) (by decide) ?_ ?_
  · refine sv_bipush (pc := 26) (v := (-5 : Int32)) (sv_d k_X_of 12 rfl) (by decide) ?_
    exact sv_ret (pc := 28) (sv_d k_X_of 13 rfl) ⟨_, rfl, rfl⟩ rfl
  · refine sv_aload_n (pc := 11) 0 (sv_d k_X_of 5 rfl) rfl rfl ?_
    refine sv_getf (pc := 12) 3 (sv_d k_X_of 6 rfl) cf11 (by decide) w519 kd64 (ss_lt (by decide)) (lr_64_3 E _) ?_
    refine sv_iload_n (pc := 15) 1 (sv_d k_X_of 7 rfl) rfl rfl ?_
    refine sv_callV (pc := 16) (ψ := (ss_pq E s)) (As := [.int x1]) (rest := []) (c := 88) (sv_d k_X_of 8 rfl) g_Rs_row w834 in_Rs_row se_Rs_row cf6 kd88 (ss_lt (by decide)) rfl (Nat.le_of_ble_eq_true rfl) (V_Rs_row E (d + 1) x1 s) (Nat.le_of_ble_eq_true rfl) rfl (fun r2 => ?_)
    show sv_V E _ _ _ 19 _ [sv_r E r2] (ss_e s) _
    refine ss_gd2 (fun h_g3 o_g3 l_g3 => ?_)
    refine sv_iload_n (pc := 19) 2 (sv_d k_X_of 9 rfl) rfl rfl ?_
    refine sv_callV (pc := 20) (ψ := (ss_pi s)) (As := [.int x2]) (rest := []) (c := r2) (sv_d k_X_of 10 rfl) g_Ra_fact w875 in_Ra_fact se_Ra_fact cf5 h_g3 l_g3 rfl (Nat.le_of_ble_eq_true rfl) (V_Ra_fact E (d + 0) r2 x2 s h_g3 o_g3 l_g3) (Nat.le_of_ble_eq_true rfl) rfl (fun r4 => ?_)
    show sv_V E _ _ _ 23 _ [.int r4] (ss_e s) _
    refine sv_goto (pc := 23) (tgt := 28) (sv_d k_X_of 11 rfl) (by decide) ?_
    exact sv_ret (pc := 28) (sv_d k_X_of 13 rfl) ⟨_, rfl, rfl⟩ rfl
/-! X_charge -/
abbrev m_X_charge : sv_M := (yX11_charge, cX11_charge, 7, (some .int))
def t_X_charge : List (Nat × Instr × Nat) := [(0, .aload_n 0, 1), (1, .getfield 37, 3), (4, .iload_n 1, 1), (5, .invokevirtual 183, 3), (8, .ifCond .eq 10, 3), (11, .iload_n 2, 1), (12, .invokestatic 168, 3), (15, .ifCond .ne 5, 3), (18, .iconst (-1), 1), (19, .ireturn, 1), (20, .iload_n 3, 1), (21, .invokestatic 171, 3), (24, .ifCond .eq 11, 3), (27, .iload 4, 2), (29, .invokestatic 122, 3), (32, .ifCond .ne 6, 3), (35, .bipush (-2), 2), (37, .ireturn, 1), (38, .aload_n 0, 1), (39, .getfield 37, 3), (42, .iload_n 1, 1), (43, .invokevirtual 174, 3), (46, .astore 5, 2), (48, .aload_n 0, 1), (49, .getfield 37, 3), (52, .aload 5, 2), (54, .aload 5, 2), (56, .getfield 223, 3), (59, .iload_n 2, 1), (60, .iload_n 3, 1), (61, .iload 4, 2), (63, .invokevirtual 226, 3), (66, .istore 6, 2), (68, .iload 6, 2), (70, .ifCond .ge 8, 3), (73, .bipush (-3), 2), (75, .goto 5, 3), (78, .iload 6, 2), (80, .ireturn, 1)]
theorem k_X_charge : sv_tk m_X_charge.2.1 t_X_charge := by decide +kernel
theorem g_X_charge : sv_G m_X_charge 4 := ⟨by decide +kernel, sv_in 883 (by decide +kernel) rfl, sv_in 90 (by decide +kernel) rfl, ⟨by decide, by decide⟩, by decide +kernel, by decide⟩
theorem in_X_charge : Cond.instanceMethod m_X_charge.1 ∈ sv_T := sv_in 881 (by decide +kernel) rfl
theorem se_X_charge : Cond.selects m_X_charge.1.cls m_X_charge.1 m_X_charge.1 ∈ sv_T := sv_in 882 (by decide +kernel) rfl
def F_X_charge (x1 : Int32) (x2 : Int32) (x3 : Int32) (x4 : Int32) (s : sv_S) : Option (Int32 × sv_S) :=
  (F_Rs_has x1 s).bind fun r1 =>
  if r1 = 0 then
    some ((-1 : Int32), s)
  else
  (F_X_isGood x2 s).bind fun r2 =>
  if r2 = 0 then
    some ((-1 : Int32), s)
  else
  (F_X_areTons x3 s).bind fun r3 =>
  if r3 = 0 then
    some ((-2 : Int32), s)
  else
  (F_X_isDay x4 s).bind fun r4 =>
  if r4 = 0 then
    some ((-2 : Int32), s)
  else
  (F_Rs_row x1 s).bind fun r5 =>
  if ss_ok2 s r5 5 = true then
    (F_Rs_fee r5 (s.1 r5 5) x2 x3 x4 s).bind fun r7 =>
    if 0 ≤ r7.1 then
      some (r7.1, r7.2)
    else
    some ((-3 : Int32), r7.2)
  else none
theorem V_X_charge (E : sv_E) (d : Nat) (x1 : Int32) (x2 : Int32) (x3 : Int32) (x4 : Int32) (s : sv_S) : sv_V E m_X_charge (d + 3) ss_i 0 (lv_args 0 [sv_r E 64, .int x1, .int x2, .int x3, .int x4]) [] (ss_e s) (F_X_charge x1 x2 x3 x4 s) := by
  show sv_V E m_X_charge (d + 3) ss_i 0 [(0, sv_r E 64), (1, .int x1), (2, .int x2), (3, .int x3), (4, .int x4)] [] (ss_e s) _
  unfold F_X_charge
  refine sv_aload_n (pc := 0) 0 (sv_d k_X_charge 0 rfl) rfl rfl ?_
  refine sv_getf (pc := 1) 3 (sv_d k_X_charge 1 rfl) cf11 (by decide) w519 kd64 (ss_lt (by decide)) (lr_64_3 E _) ?_
  refine sv_iload_n (pc := 4) 1 (sv_d k_X_charge 2 rfl) rfl rfl ?_
  refine sv_callV (pc := 5) (ψ := (ss_pi s)) (As := [.int x1]) (rest := []) (c := 88) (sv_d k_X_charge 3 rfl) g_Rs_has w842 in_Rs_has se_Rs_has cf6 kd88 (ss_lt (by decide)) rfl (Nat.le_of_ble_eq_true rfl) (V_Rs_has E (d + 2) x1 s) (Nat.le_of_ble_eq_true rfl) rfl (fun r1 => ?_)
  show sv_V E _ _ _ 8 _ [.int r1] (ss_e s) _
  refine sv_if_eq (pc := 8) (tgt := 18) (sv_d k_X_charge 4 rfl) (by decide) ?_ ?_
  · refine sv_iconst (pc := 18) (v := (-1 : Int32)) (sv_d k_X_charge 8 rfl) (by decide) ?_
    exact sv_ret (pc := 19) (sv_d k_X_charge 9 rfl) ⟨_, rfl, rfl⟩ rfl
  · refine sv_iload_n (pc := 11) 2 (sv_d k_X_charge 5 rfl) rfl rfl ?_
    refine sv_callS (pc := 12) (ψ := (ss_pi s)) (As := [.int x2]) (rest := []) (sv_d k_X_charge 6 rfl) g_X_isGood w828 st_X_isGood rfl (Nat.le_of_ble_eq_true rfl) (V_X_isGood E (d + 2) x2 s) (Nat.le_of_ble_eq_true rfl) rfl (fun r2 => ?_)
    show sv_V E _ _ _ 15 _ [.int r2] (ss_e s) _
    refine sv_if_ne (pc := 15) (tgt := 20) (sv_d k_X_charge 7 rfl) (by decide) ?_ ?_
    · refine sv_iload_n (pc := 20) 3 (sv_d k_X_charge 10 rfl) rfl rfl ?_
      refine sv_callS (pc := 21) (ψ := (ss_pi s)) (As := [.int x3]) (rest := []) (sv_d k_X_charge 11 rfl) g_X_areTons w831 st_X_areTons rfl (Nat.le_of_ble_eq_true rfl) (V_X_areTons E (d + 2) x3 s) (Nat.le_of_ble_eq_true rfl) rfl (fun r3 => ?_)
      show sv_V E _ _ _ 24 _ [.int r3] (ss_e s) _
      refine sv_if_eq (pc := 24) (tgt := 35) (sv_d k_X_charge 12 rfl) (by decide) ?_ ?_
      · refine sv_bipush (pc := 35) (v := (-2 : Int32)) (sv_d k_X_charge 16 rfl) (by decide) ?_
        exact sv_ret (pc := 37) (sv_d k_X_charge 17 rfl) ⟨_, rfl, rfl⟩ rfl
      · refine sv_iload (pc := 27) 4 (sv_d k_X_charge 13 rfl) rfl ?_
        refine sv_callS (pc := 29) (ψ := (ss_pi s)) (As := [.int x4]) (rest := []) (sv_d k_X_charge 14 rfl) g_X_isDay w621 st_X_isDay rfl (Nat.le_of_ble_eq_true rfl) (V_X_isDay E (d + 2) x4 s) (Nat.le_of_ble_eq_true rfl) rfl (fun r4 => ?_)
        show sv_V E _ _ _ 32 _ [.int r4] (ss_e s) _
        refine sv_if_ne (pc := 32) (tgt := 38) (sv_d k_X_charge 15 rfl) (by decide) ?_ ?_
        · refine sv_aload_n (pc := 38) 0 (sv_d k_X_charge 18 rfl) rfl rfl ?_
          refine sv_getf (pc := 39) 3 (sv_d k_X_charge 19 rfl) cf11 (by decide) w519 kd64 (ss_lt (by decide)) (lr_64_3 E _) ?_
          refine sv_iload_n (pc := 42) 1 (sv_d k_X_charge 20 rfl) rfl rfl ?_
          refine sv_callV (pc := 43) (ψ := (ss_pq E s)) (As := [.int x1]) (rest := []) (c := 88) (sv_d k_X_charge 21 rfl) g_Rs_row w834 in_Rs_row se_Rs_row cf6 kd88 (ss_lt (by decide)) rfl (Nat.le_of_ble_eq_true rfl) (V_Rs_row E (d + 2) x1 s) (Nat.le_of_ble_eq_true rfl) rfl (fun r5 => ?_)
          show sv_V E _ _ _ 46 _ [sv_r E r5] (ss_e s) _
          refine ss_gd2 (fun h_g6 o_g6 l_g6 => ?_)
          refine sv_astore (pc := 46) (lv' := [(5, sv_r E r5), (0, sv_r E 64), (1, .int x1), (2, .int x2), (3, .int x3), (4, .int x4)]) (sv_d k_X_charge 22 rfl) (by decide) rfl ?_
          refine sv_aload_n (pc := 48) 1 (sv_d k_X_charge 23 rfl) rfl rfl ?_
          refine sv_getf (pc := 49) 3 (sv_d k_X_charge 24 rfl) cf11 (by decide) w519 kd64 (ss_lt (by decide)) (lr_64_3 E _) ?_
          refine sv_aload (pc := 52) 0 (sv_d k_X_charge 25 rfl) rfl ?_
          refine sv_aload (pc := 54) 0 (sv_d k_X_charge 26 rfl) rfl ?_
          refine sv_getN (pc := 56) 5 (sv_d k_X_charge 27 rfl) cf5 (by decide) w286 h_g6 l_g6 rfl ?_
          refine sv_iload_n (pc := 59) 3 (sv_d k_X_charge 28 rfl) rfl rfl ?_
          refine sv_iload_n (pc := 60) 4 (sv_d k_X_charge 29 rfl) rfl rfl ?_
          refine sv_iload (pc := 61) 5 (sv_d k_X_charge 30 rfl) rfl ?_
          refine sv_callV (pc := 63) (ψ := ss_i) (As := [sv_r E r5, .int (s.1 r5 5), .int x2, .int x3, .int x4]) (rest := []) (c := 88) (sv_d k_X_charge 31 rfl) g_Rs_fee w884 in_Rs_fee se_Rs_fee cf6 kd88 (ss_lt (by decide)) rfl (Nat.le_of_ble_eq_true rfl) (V_Rs_fee E (d + 0) r5 (s.1 r5 5) x2 x3 x4 s h_g6 o_g6 l_g6) (Nat.le_of_ble_eq_true rfl) rfl (fun r7 => ?_)
          show sv_V E _ _ _ 66 _ [.int r7.1] (ss_e r7.2) _
          refine sv_istore (pc := 66) (lv' := [(6, .int r7.1), (5, sv_r E r5), (0, sv_r E 64), (1, .int x1), (2, .int x2), (3, .int x3), (4, .int x4)]) (sv_d k_X_charge 32 rfl) (by decide) rfl ?_
          refine sv_iload (pc := 68) 0 (sv_d k_X_charge 33 rfl) rfl ?_
          refine sv_if_ge (pc := 70) (tgt := 78) (sv_d k_X_charge 34 rfl) (by decide) ?_ ?_
          · refine sv_iload (pc := 78) 0 (sv_d k_X_charge 37 rfl) rfl ?_
            exact sv_ret (pc := 80) (sv_d k_X_charge 38 rfl) ⟨_, rfl, rfl⟩ rfl
          · refine sv_bipush (pc := 73) (v := (-3 : Int32)) (sv_d k_X_charge 35 rfl) (by decide) ?_
            refine sv_goto (pc := 75) (tgt := 80) (sv_d k_X_charge 36 rfl) (by decide) ?_
            exact sv_ret (pc := 80) (sv_d k_X_charge 38 rfl) ⟨_, rfl, rfl⟩ rfl
        · refine sv_bipush (pc := 35) (v := (-2 : Int32)) (sv_d k_X_charge 16 rfl) (by decide) ?_
          exact sv_ret (pc := 37) (sv_d k_X_charge 17 rfl) ⟨_, rfl, rfl⟩ rfl
    · refine sv_iconst (pc := 18) (v := (-1 : Int32)) (sv_d k_X_charge 8 rfl) (by decide) ?_
      exact sv_ret (pc := 19) (sv_d k_X_charge 9 rfl) ⟨_, rfl, rfl⟩ rfl
/-! X_most -/
abbrev m_X_most : sv_M := (yX11_most, cX11_most, 6, (some .int))
def t_X_most : List (Nat × Instr × Nat) := [(0, .aload_n 0, 1), (1, .getfield 37, 3), (4, .iload_n 1, 1), (5, .invokevirtual 183, 3), (8, .ifCond .eq 12, 3), (11, .iload_n 3, 1), (12, .ifCond .lt 8, 3), (15, .iload_n 3, 1), (16, .iconst 1, 1), (17, .if_icmp .le 5, 3), (20, .iconst (-1), 1), (21, .ireturn, 1), (22, .iload_n 2, 1), (23, .invokestatic 122, 3), (26, .ifCond .ne 6, 3), (29, .bipush (-2), 2), (31, .ireturn, 1), (32, .aload_n 0, 1), (33, .getfield 37, 3), (36, .iload_n 1, 1), (37, .invokevirtual 174, 3), (40, .astore 4, 2), (42, .iload_n 3, 1), (43, .iconst 1, 1), (44, .if_icmp .ne 14, 3), (47, .aload_n 0, 1), (48, .getfield 37, 3), (51, .aload 4, 2), (53, .iload_n 2, 1), (54, .invokevirtual 230, 3), (57, .ireturn, 1), (58, .aload_n 0, 1), (59, .getfield 37, 3), (62, .aload 4, 2), (64, .iload_n 2, 1), (65, .invokevirtual 233, 3), (68, .istore 5, 2), (70, .iload 5, 2), (72, .ifCond .ge 8, 3), (75, .bipush (-3), 2), (77, .goto 5, 3), (80, .iload 5, 2), (82, .ireturn, 1)]
theorem k_X_most : sv_tk m_X_most.2.1 t_X_most := by decide +kernel
theorem g_X_most : sv_G m_X_most 3 := ⟨by decide +kernel, sv_in 902 (by decide +kernel) rfl, sv_in 90 (by decide +kernel) rfl, ⟨by decide, by decide⟩, by decide +kernel, by decide⟩
theorem in_X_most : Cond.instanceMethod m_X_most.1 ∈ sv_T := sv_in 900 (by decide +kernel) rfl
theorem se_X_most : Cond.selects m_X_most.1.cls m_X_most.1 m_X_most.1 ∈ sv_T := sv_in 901 (by decide +kernel) rfl
def F_X_most (x1 : Int32) (x2 : Int32) (x3 : Int32) (s : sv_S) : Option (Int32 × sv_S) :=
  (F_Rs_has x1 s).bind fun r1 =>
  if r1 = 0 then
    some ((-1 : Int32), s)
  else
  if x3 < 0 then
    some ((-1 : Int32), s)
  else
  if x3 ≤ (1 : Int32) then
    (F_X_isDay x2 s).bind fun r2 =>
    if r2 = 0 then
      some ((-2 : Int32), s)
    else
    (F_Rs_row x1 s).bind fun r3 =>
    if ss_ok2 s r3 5 = true then
      if x3 = (1 : Int32) then
        (F_Rs_over r3 x2 s).bind fun r6 =>
        some (r6.1, r6.2)
      else
      (F_Rs_ceiling r3 x2 s).bind fun r5 =>
      if 0 ≤ r5.1 then
        some (r5.1, r5.2)
      else
      some ((-3 : Int32), r5.2)
    else none
  else
  some ((-1 : Int32), s)
theorem V_X_most (E : sv_E) (d : Nat) (x1 : Int32) (x2 : Int32) (x3 : Int32) (s : sv_S) : sv_V E m_X_most (d + 5) ss_i 0 (lv_args 0 [sv_r E 64, .int x1, .int x2, .int x3]) [] (ss_e s) (F_X_most x1 x2 x3 s) := by
  show sv_V E m_X_most (d + 5) ss_i 0 [(0, sv_r E 64), (1, .int x1), (2, .int x2), (3, .int x3)] [] (ss_e s) _
  unfold F_X_most
  refine sv_aload_n (pc := 0) 0 (sv_d k_X_most 0 rfl) rfl rfl ?_
  refine sv_getf (pc := 1) 3 (sv_d k_X_most 1 rfl) cf11 (by decide) w519 kd64 (ss_lt (by decide)) (lr_64_3 E _) ?_
  refine sv_iload_n (pc := 4) 1 (sv_d k_X_most 2 rfl) rfl rfl ?_
  refine sv_callV (pc := 5) (ψ := (ss_pi s)) (As := [.int x1]) (rest := []) (c := 88) (sv_d k_X_most 3 rfl) g_Rs_has w842 in_Rs_has se_Rs_has cf6 kd88 (ss_lt (by decide)) rfl (Nat.le_of_ble_eq_true rfl) (V_Rs_has E (d + 4) x1 s) (Nat.le_of_ble_eq_true rfl) rfl (fun r1 => ?_)
  show sv_V E _ _ _ 8 _ [.int r1] (ss_e s) _
  refine sv_if_eq (pc := 8) (tgt := 20) (sv_d k_X_most 4 rfl) (by decide) ?_ ?_
  · refine sv_iconst (pc := 20) (v := (-1 : Int32)) (sv_d k_X_most 10 rfl) (by decide) ?_
    exact sv_ret (pc := 21) (sv_d k_X_most 11 rfl) ⟨_, rfl, rfl⟩ rfl
  · refine sv_iload_n (pc := 11) 3 (sv_d k_X_most 5 rfl) rfl rfl ?_
    refine sv_if_lt (pc := 12) (tgt := 20) (sv_d k_X_most 6 rfl) (by decide) ?_ ?_
    · refine sv_iconst (pc := 20) (v := (-1 : Int32)) (sv_d k_X_most 10 rfl) (by decide) ?_
      exact sv_ret (pc := 21) (sv_d k_X_most 11 rfl) ⟨_, rfl, rfl⟩ rfl
    · refine sv_iload_n (pc := 15) 3 (sv_d k_X_most 7 rfl) rfl rfl ?_
      refine sv_iconst (pc := 16) (v := (1 : Int32)) (sv_d k_X_most 8 rfl) (by decide) ?_
      refine sv_icmp_le (pc := 17) (tgt := 22) (sv_d k_X_most 9 rfl) (by decide) ?_ ?_
      · refine sv_iload_n (pc := 22) 2 (sv_d k_X_most 12 rfl) rfl rfl ?_
        refine sv_callS (pc := 23) (ψ := (ss_pi s)) (As := [.int x2]) (rest := []) (sv_d k_X_most 13 rfl) g_X_isDay w621 st_X_isDay rfl (Nat.le_of_ble_eq_true rfl) (V_X_isDay E (d + 4) x2 s) (Nat.le_of_ble_eq_true rfl) rfl (fun r2 => ?_)
        show sv_V E _ _ _ 26 _ [.int r2] (ss_e s) _
        refine sv_if_ne (pc := 26) (tgt := 32) (sv_d k_X_most 14 rfl) (by decide) ?_ ?_
        · refine sv_aload_n (pc := 32) 0 (sv_d k_X_most 17 rfl) rfl rfl ?_
          refine sv_getf (pc := 33) 3 (sv_d k_X_most 18 rfl) cf11 (by decide) w519 kd64 (ss_lt (by decide)) (lr_64_3 E _) ?_
          refine sv_iload_n (pc := 36) 1 (sv_d k_X_most 19 rfl) rfl rfl ?_
          refine sv_callV (pc := 37) (ψ := (ss_pq E s)) (As := [.int x1]) (rest := []) (c := 88) (sv_d k_X_most 20 rfl) g_Rs_row w834 in_Rs_row se_Rs_row cf6 kd88 (ss_lt (by decide)) rfl (Nat.le_of_ble_eq_true rfl) (V_Rs_row E (d + 4) x1 s) (Nat.le_of_ble_eq_true rfl) rfl (fun r3 => ?_)
          show sv_V E _ _ _ 40 _ [sv_r E r3] (ss_e s) _
          refine ss_gd2 (fun h_g4 o_g4 l_g4 => ?_)
          refine sv_astore (pc := 40) (lv' := [(4, sv_r E r3), (0, sv_r E 64), (1, .int x1), (2, .int x2), (3, .int x3)]) (sv_d k_X_most 21 rfl) (by decide) rfl ?_
          refine sv_iload_n (pc := 42) 4 (sv_d k_X_most 22 rfl) rfl rfl ?_
          refine sv_iconst (pc := 43) (v := (1 : Int32)) (sv_d k_X_most 23 rfl) (by decide) ?_
          refine sv_icmp_ne (pc := 44) (tgt := 58) (sv_d k_X_most 24 rfl) (by decide) ?_ ?_
          · refine sv_aload_n (pc := 58) 1 (sv_d k_X_most 31 rfl) rfl rfl ?_
            refine sv_getf (pc := 59) 3 (sv_d k_X_most 32 rfl) cf11 (by decide) w519 kd64 (ss_lt (by decide)) (lr_64_3 E _) ?_
            refine sv_aload (pc := 62) 0 (sv_d k_X_most 33 rfl) rfl ?_
            refine sv_iload_n (pc := 64) 3 (sv_d k_X_most 34 rfl) rfl rfl ?_
            refine sv_callV (pc := 65) (ψ := ss_i) (As := [sv_r E r3, .int x2]) (rest := []) (c := 88) (sv_d k_X_most 35 rfl) g_Rs_ceiling w912 in_Rs_ceiling se_Rs_ceiling cf6 kd88 (ss_lt (by decide)) rfl (Nat.le_of_ble_eq_true rfl) (V_Rs_ceiling E (d + 1) r3 x2 s h_g4 o_g4 l_g4) (Nat.le_of_ble_eq_true rfl) rfl (fun r5 => ?_)
            show sv_V E _ _ _ 68 _ [.int r5.1] (ss_e r5.2) _
            refine sv_istore (pc := 68) (lv' := [(5, .int r5.1), (4, sv_r E r3), (0, sv_r E 64), (1, .int x1), (2, .int x2), (3, .int x3)]) (sv_d k_X_most 36 rfl) (by decide) rfl ?_
            refine sv_iload (pc := 70) 0 (sv_d k_X_most 37 rfl) rfl ?_
            refine sv_if_ge (pc := 72) (tgt := 80) (sv_d k_X_most 38 rfl) (by decide) ?_ ?_
            · refine sv_iload (pc := 80) 0 (sv_d k_X_most 41 rfl) rfl ?_
              exact sv_ret (pc := 82) (sv_d k_X_most 42 rfl) ⟨_, rfl, rfl⟩ rfl
            · refine sv_bipush (pc := 75) (v := (-3 : Int32)) (sv_d k_X_most 39 rfl) (by decide) ?_
              refine sv_goto (pc := 77) (tgt := 82) (sv_d k_X_most 40 rfl) (by decide) ?_
              exact sv_ret (pc := 82) (sv_d k_X_most 42 rfl) ⟨_, rfl, rfl⟩ rfl
          · refine sv_aload_n (pc := 47) 1 (sv_d k_X_most 25 rfl) rfl rfl ?_
            refine sv_getf (pc := 48) 3 (sv_d k_X_most 26 rfl) cf11 (by decide) w519 kd64 (ss_lt (by decide)) (lr_64_3 E _) ?_
            refine sv_aload (pc := 51) 0 (sv_d k_X_most 27 rfl) rfl ?_
            refine sv_iload_n (pc := 53) 3 (sv_d k_X_most 28 rfl) rfl rfl ?_
            refine sv_callV (pc := 54) (ψ := ss_i) (As := [sv_r E r3, .int x2]) (rest := []) (c := 88) (sv_d k_X_most 29 rfl) g_Rs_over w903 in_Rs_over se_Rs_over cf6 kd88 (ss_lt (by decide)) rfl (Nat.le_of_ble_eq_true rfl) (V_Rs_over E (d + 0) r3 x2 s h_g4 o_g4 l_g4) (Nat.le_of_ble_eq_true rfl) rfl (fun r6 => ?_)
            show sv_V E _ _ _ 57 _ [.int r6.1] (ss_e r6.2) _
            exact sv_ret (pc := 57) (sv_d k_X_most 30 rfl) ⟨_, rfl, rfl⟩ rfl
        · refine sv_bipush (pc := 29) (v := (-2 : Int32)) (sv_d k_X_most 15 rfl) (by decide) ?_
          exact sv_ret (pc := 31) (sv_d k_X_most 16 rfl) ⟨_, rfl, rfl⟩ rfl
      · refine sv_iconst (pc := 20) (v := (-1 : Int32)) (sv_d k_X_most 10 rfl) (by decide) ?_
        exact sv_ret (pc := 21) (sv_d k_X_most 11 rfl) ⟨_, rfl, rfl⟩ rfl
/-! X_part -/
abbrev m_X_part : sv_M := (yX11_part, cX11_part, 6, (some .int))
def t_X_part : List (Nat × Instr × Nat) := [(0, .aload_n 0, 1), (1, .getfield 37, 3), (4, .iload_n 1, 1), (5, .invokevirtual 183, 3), (8, .ifCond .eq 10, 3), (11, .iload_n 3, 1), (12, .invokestatic 89, 3), (15, .ifCond .ne 5, 3), (18, .iconst (-1), 1), (19, .ireturn, 1), (20, .aload_n 0, 1), (21, .getfield 37, 3), (24, .iload_n 1, 1), (25, .invokevirtual 174, 3), (28, .astore 4, 2), (30, .aload 4, 2), (32, .getfield 190, 3), (35, .iconst 1, 1), (36, .if_icmp .eq 15, 3), (39, .aload 4, 2), (41, .getfield 190, 3), (44, .iconst 4, 1), (45, .if_icmp .eq 6, 3), (48, .bipush (-12), 2), (50, .ireturn, 1), (51, .iload_n 2, 1), (52, .invokestatic 122, 3), (55, .ifCond .ne 6, 3), (58, .bipush (-2), 2), (60, .ireturn, 1), (61, .aload_n 0, 1), (62, .getfield 37, 3), (65, .aload 4, 2), (67, .iload_n 2, 1), (68, .iload_n 3, 1), (69, .invokevirtual 236, 3), (72, .istore 5, 2), (74, .iload 5, 2), (76, .ifCond .ge 8, 3), (79, .bipush (-3), 2), (81, .goto 5, 3), (84, .iload 5, 2), (86, .ireturn, 1)]
theorem k_X_part : sv_tk m_X_part.2.1 t_X_part := by decide +kernel
theorem g_X_part : sv_G m_X_part 3 := ⟨by decide +kernel, sv_in 916 (by decide +kernel) rfl, sv_in 90 (by decide +kernel) rfl, ⟨by decide, by decide⟩, by decide +kernel, by decide⟩
theorem in_X_part : Cond.instanceMethod m_X_part.1 ∈ sv_T := sv_in 914 (by decide +kernel) rfl
theorem se_X_part : Cond.selects m_X_part.1.cls m_X_part.1 m_X_part.1 ∈ sv_T := sv_in 915 (by decide +kernel) rfl
def F_X_part_b51 (x2 : Int32) (x3 : Int32) (a4 : Nat) (s : sv_S) : Option (Int32 × sv_S) :=
  (F_X_isDay x2 s).bind fun r5 =>
  if r5 = 0 then
    some ((-2 : Int32), s)
  else
  (F_Rs_share a4 x2 x3 s).bind fun r6 =>
  if 0 ≤ r6.1 then
    some (r6.1, r6.2)
  else
  some ((-3 : Int32), r6.2)
theorem V_X_part_b51 (E : sv_E) (d : Nat) (x2 : Int32) (x3 : Int32) (a4 : Nat) (s : sv_S) (h_a4 : ss_K a4 = 5) (o_a4 : 64 ≤ a4) (l_a4 : a4 < 243 + s.2.2.2.2.1) : sv_V E m_X_part (d + 6) ss_i 51 [(0, sv_r E 64), (2, .int x2), (3, .int x3), (4, sv_r E a4)] [] (ss_e s) (F_X_part_b51 x2 x3 a4 s) := by
  unfold F_X_part_b51
  refine sv_iload_n (pc := 51) 1 (sv_d k_X_part 25 rfl) rfl rfl ?_
  refine sv_callS (pc := 52) (ψ := (ss_pi s)) (As := [.int x2]) (rest := []) (sv_d k_X_part 26 rfl) g_X_isDay w621 st_X_isDay rfl (Nat.le_of_ble_eq_true rfl) (V_X_isDay E (d + 5) x2 s) (Nat.le_of_ble_eq_true rfl) rfl (fun r5 => ?_)
  show sv_V E _ _ _ 55 _ [.int r5] (ss_e s) _
  refine sv_if_ne (pc := 55) (tgt := 61) (sv_d k_X_part 27 rfl) (by decide) ?_ ?_
  · refine sv_aload_n (pc := 61) 0 (sv_d k_X_part 30 rfl) rfl rfl ?_
    refine sv_getf (pc := 62) 3 (sv_d k_X_part 31 rfl) cf11 (by decide) w519 kd64 (ss_lt (by decide)) (lr_64_3 E _) ?_
    refine sv_aload (pc := 65) 3 (sv_d k_X_part 32 rfl) rfl ?_
    refine sv_iload_n (pc := 67) 1 (sv_d k_X_part 33 rfl) rfl rfl ?_
    refine sv_iload_n (pc := 68) 2 (sv_d k_X_part 34 rfl) rfl rfl ?_
    refine sv_callV (pc := 69) (ψ := ss_i) (As := [sv_r E a4, .int x2, .int x3]) (rest := []) (c := 88) (sv_d k_X_part 35 rfl) g_Rs_share w917 in_Rs_share se_Rs_share cf6 kd88 (ss_lt (by decide)) rfl (Nat.le_of_ble_eq_true rfl) (V_Rs_share E (d + 0) a4 x2 x3 s h_a4 o_a4 l_a4) (Nat.le_of_ble_eq_true rfl) rfl (fun r6 => ?_)
    show sv_V E _ _ _ 72 _ [.int r6.1] (ss_e r6.2) _
    refine sv_istore (pc := 72) (lv' := [(5, .int r6.1), (0, sv_r E 64), (2, .int x2), (3, .int x3), (4, sv_r E a4)]) (sv_d k_X_part 36 rfl) (by decide) rfl ?_
    refine sv_iload (pc := 74) 0 (sv_d k_X_part 37 rfl) rfl ?_
    refine sv_if_ge (pc := 76) (tgt := 84) (sv_d k_X_part 38 rfl) (by decide) ?_ ?_
    · refine sv_iload (pc := 84) 0 (sv_d k_X_part 41 rfl) rfl ?_
      exact sv_ret (pc := 86) (sv_d k_X_part 42 rfl) ⟨_, rfl, rfl⟩ rfl
    · refine sv_bipush (pc := 79) (v := (-3 : Int32)) (sv_d k_X_part 39 rfl) (by decide) ?_
      refine sv_goto (pc := 81) (tgt := 86) (sv_d k_X_part 40 rfl) (by decide) ?_
      exact sv_ret (pc := 86) (sv_d k_X_part 42 rfl) ⟨_, rfl, rfl⟩ rfl
  · refine sv_bipush (pc := 58) (v := (-2 : Int32)) (sv_d k_X_part 28 rfl) (by decide) ?_
    exact sv_ret (pc := 60) (sv_d k_X_part 29 rfl) ⟨_, rfl, rfl⟩ rfl
def F_X_part (x1 : Int32) (x2 : Int32) (x3 : Int32) (s : sv_S) : Option (Int32 × sv_S) :=
  (F_Rs_has x1 s).bind fun r1 =>
  if r1 = 0 then
    some ((-1 : Int32), s)
  else
  (F_X_isOwner x3 s).bind fun r2 =>
  if r2 = 0 then
    some ((-1 : Int32), s)
  else
  (F_Rs_row x1 s).bind fun r3 =>
  if ss_ok2 s r3 5 = true then
    if (s.1 r3 1) = (1 : Int32) then
      F_X_part_b51 x2 x3 r3 s
    else
    if (s.1 r3 1) = (4 : Int32) then
      F_X_part_b51 x2 x3 r3 s
    else
    some ((-12 : Int32), s)
  else none
theorem V_X_part (E : sv_E) (d : Nat) (x1 : Int32) (x2 : Int32) (x3 : Int32) (s : sv_S) : sv_V E m_X_part (d + 6) ss_i 0 (lv_args 0 [sv_r E 64, .int x1, .int x2, .int x3]) [] (ss_e s) (F_X_part x1 x2 x3 s) := by
  show sv_V E m_X_part (d + 6) ss_i 0 [(0, sv_r E 64), (1, .int x1), (2, .int x2), (3, .int x3)] [] (ss_e s) _
  unfold F_X_part
  refine sv_aload_n (pc := 0) 0 (sv_d k_X_part 0 rfl) rfl rfl ?_
  refine sv_getf (pc := 1) 3 (sv_d k_X_part 1 rfl) cf11 (by decide) w519 kd64 (ss_lt (by decide)) (lr_64_3 E _) ?_
  refine sv_iload_n (pc := 4) 1 (sv_d k_X_part 2 rfl) rfl rfl ?_
  refine sv_callV (pc := 5) (ψ := (ss_pi s)) (As := [.int x1]) (rest := []) (c := 88) (sv_d k_X_part 3 rfl) g_Rs_has w842 in_Rs_has se_Rs_has cf6 kd88 (ss_lt (by decide)) rfl (Nat.le_of_ble_eq_true rfl) (V_Rs_has E (d + 5) x1 s) (Nat.le_of_ble_eq_true rfl) rfl (fun r1 => ?_)
  show sv_V E _ _ _ 8 _ [.int r1] (ss_e s) _
  refine sv_if_eq (pc := 8) (tgt := 18) (sv_d k_X_part 4 rfl) (by decide) ?_ ?_
  · refine sv_iconst (pc := 18) (v := (-1 : Int32)) (sv_d k_X_part 8 rfl) (by decide) ?_
    exact sv_ret (pc := 19) (sv_d k_X_part 9 rfl) ⟨_, rfl, rfl⟩ rfl
  · refine sv_iload_n (pc := 11) 3 (sv_d k_X_part 5 rfl) rfl rfl ?_
    refine sv_callS (pc := 12) (ψ := (ss_pi s)) (As := [.int x3]) (rest := []) (sv_d k_X_part 6 rfl) g_X_isOwner w558 st_X_isOwner rfl (Nat.le_of_ble_eq_true rfl) (V_X_isOwner E (d + 5) x3 s) (Nat.le_of_ble_eq_true rfl) rfl (fun r2 => ?_)
    show sv_V E _ _ _ 15 _ [.int r2] (ss_e s) _
    refine sv_if_ne (pc := 15) (tgt := 20) (sv_d k_X_part 7 rfl) (by decide) ?_ ?_
    · refine sv_aload_n (pc := 20) 0 (sv_d k_X_part 10 rfl) rfl rfl ?_
      refine sv_getf (pc := 21) 3 (sv_d k_X_part 11 rfl) cf11 (by decide) w519 kd64 (ss_lt (by decide)) (lr_64_3 E _) ?_
      refine sv_iload_n (pc := 24) 1 (sv_d k_X_part 12 rfl) rfl rfl ?_
      refine sv_callV (pc := 25) (ψ := (ss_pq E s)) (As := [.int x1]) (rest := []) (c := 88) (sv_d k_X_part 13 rfl) g_Rs_row w834 in_Rs_row se_Rs_row cf6 kd88 (ss_lt (by decide)) rfl (Nat.le_of_ble_eq_true rfl) (V_Rs_row E (d + 5) x1 s) (Nat.le_of_ble_eq_true rfl) rfl (fun r3 => ?_)
      show sv_V E _ _ _ 28 _ [sv_r E r3] (ss_e s) _
      refine ss_gd2 (fun h_g4 o_g4 l_g4 => ?_)
      refine sv_astore (pc := 28) (lv' := [(4, sv_r E r3), (0, sv_r E 64), (1, .int x1), (2, .int x2), (3, .int x3)]) (sv_d k_X_part 14 rfl) (by decide) rfl ?_
      refine sv_aload (pc := 30) 0 (sv_d k_X_part 15 rfl) rfl ?_
      refine sv_getN (pc := 32) 1 (sv_d k_X_part 16 rfl) cf5 (by decide) w264 h_g4 l_g4 rfl ?_
      refine sv_iconst (pc := 35) (v := (1 : Int32)) (sv_d k_X_part 17 rfl) (by decide) ?_
      refine sv_icmp_eq (pc := 36) (tgt := 51) (sv_d k_X_part 18 rfl) (by decide) ?_ ?_
      · exact sv_loc [1, 3, 4, 0] rfl (V_X_part_b51 E d x2 x3 r3 s h_g4 o_g4 l_g4)
      · refine sv_aload (pc := 39) 0 (sv_d k_X_part 19 rfl) rfl ?_
        refine sv_getN (pc := 41) 1 (sv_d k_X_part 20 rfl) cf5 (by decide) w264 h_g4 l_g4 rfl ?_
        refine sv_iconst (pc := 44) (v := (4 : Int32)) (sv_d k_X_part 21 rfl) (by decide) ?_
        refine sv_icmp_eq (pc := 45) (tgt := 51) (sv_d k_X_part 22 rfl) (by decide) ?_ ?_
        · exact sv_loc [1, 3, 4, 0] rfl (V_X_part_b51 E d x2 x3 r3 s h_g4 o_g4 l_g4)
        · refine sv_bipush (pc := 48) (v := (-12 : Int32)) (sv_d k_X_part 23 rfl) (by decide) ?_
          exact sv_ret (pc := 50) (sv_d k_X_part 24 rfl) ⟨_, rfl, rfl⟩ rfl
    · refine sv_iconst (pc := 18) (v := (-1 : Int32)) (sv_d k_X_part 8 rfl) (by decide) ?_
      exact sv_ret (pc := 19) (sv_d k_X_part 9 rfl) ⟨_, rfl, rfl⟩ rfl
