section SMR
variable {α : Type} {E : sv_E} {M : sv_M} {d pc : Nat} {φ : α → Option Value × sv_H} {lv : List (Nat × Value)} {st : List Value} {h : sv_H} {o : Option α}
theorem sv_multi26 {index : Nat} {n k : Int32} (hd : decode M.2.1 pc = .ok (.multianewarray index 2, 4)) (hcl : Cond.classLink M.1.cls index "[[I" ∈ sv_T) (hnb : sd_nb n = true) (hkb : sd_nb k = true) (kk : sv_V E M d φ (pc + 4) lv (sv_r E (sv_nx h) :: st) (sv_mkM h 26 20 n.toNatClampNeg k.toNatClampNeg) o) : sv_V E M d φ pc lv (.int k :: .int n :: st) h o :=
  sv_multi (kO := 26) (kI := 20) hd rfl hcl wa20 (fun s h => h.2.2.1) ⟨by decide, by decide⟩ ⟨rfl, rfl, fun h' c j e1 e2 e3 => by simp [sv_fv, sv_aty, e1, defaultValue]⟩ hnb hkb kk
theorem sv_multi27 {index : Nat} {n k : Int32} (hd : decode M.2.1 pc = .ok (.multianewarray index 2, 4)) (hcl : Cond.classLink M.1.cls index "[[J" ∈ sv_T) (hnb : sd_nb n = true) (hkb : sd_nb k = true) (kk : sv_V E M d φ (pc + 4) lv (sv_r E (sv_nx h) :: st) (sv_mkM h 27 21 n.toNatClampNeg k.toNatClampNeg) o) : sv_V E M d φ pc lv (.int k :: .int n :: st) h o :=
  sv_multi (kO := 27) (kI := 21) hd rfl hcl wa21 (fun s h => h.2.2.2.1) ⟨by decide, by decide⟩ ⟨rfl, rfl, fun h' c j e1 e2 e3 => by simp [sv_fv, sv_aty, e2, defaultValue]⟩ hnb hkb kk
end SMR
/-! Ro_init -/
abbrev m_Ro_init : sv_M := (yX7_init, cX7_init, 3, none)
def t_Ro_init : List (Nat × Instr × Nat) := [(0, .aload_n 0, 1), (1, .invokespecial 3, 3), (4, .aload_n 0, 1), (5, .bipush 40, 2), (7, .newarray .int, 2), (9, .putfield 11, 3), (12, .aload_n 0, 1), (13, .bipush 40, 2), (15, .newarray .int, 2), (17, .putfield 15, 3), (20, .aload_n 0, 1), (21, .sipush 256, 3), (24, .newarray .int, 2), (26, .putfield 18, 3), (29, .aload_n 0, 1), (30, .bipush 7, 2), (32, .sipush 256, 3), (35, .multianewarray 21 2, 4), (39, .putfield 23, 3), (42, .aload_n 0, 1), (43, .getfield 18, 3), (46, .iconst (-1), 1), (47, .invokestatic 26, 3), (50, .iconst 0, 1), (51, .istore_n 1, 1), (52, .iload_n 1, 1), (53, .bipush 7, 2), (55, .if_icmp .ge 48, 3), (58, .aload_n 0, 1), (59, .getfield 23, 3), (62, .iload_n 1, 1), (63, .aaload, 1), (64, .ldc 32, 2), (66, .invokestatic 26, 3), (69, .iconst 0, 1), (70, .istore_n 2, 1), (71, .iload_n 2, 1), (72, .bipush 16, 2), (74, .if_icmp .ge 23, 3), (77, .aload_n 0, 1), (78, .getfield 23, 3), (81, .iload_n 1, 1), (82, .aaload, 1), (83, .iload_n 2, 1), (84, .bipush 16, 2), (86, .imul, 1), (87, .iload_n 2, 1), (88, .iadd, 1), (89, .iconst 0, 1), (90, .iastore, 1), (91, .iinc 2 1, 3), (94, .goto (-23), 3), (97, .iinc 1 1, 3), (100, .goto (-48), 3), (103, .return_, 1)]
theorem k_Ro_init : sv_tk m_Ro_init.2.1 t_Ro_init := by decide +kernel
theorem g_Ro_init : sv_G m_Ro_init 0 := ⟨by decide +kernel, sv_in 123 (by decide +kernel) rfl, sv_in 91 (by decide +kernel) rfl, ⟨by decide, by decide⟩, by decide +kernel, by decide⟩
theorem in_Ro_init : Cond.instanceMethod m_Ro_init.1 ∈ sv_T := sv_in 122 (by decide +kernel) rfl
def FD_Ro_init_b71 (kc52 : Nat → Int32 → sv_H → Option (sv_H)) : Nat → Nat → Int32 → Int32 → sv_H → Option (sv_H)
  | 0 => fun _ _ _ _ => none
  | n + 1 => fun a0 x1 x2 s =>
    if (16 : Int32) ≤ x2 then
      ss_let (x1 + (1 : Int32)) fun v32 =>
      kc52 a0 v32 s
    else
    if sd_ok s a0 7 = true then
      (s.2.2.1 a0 3).bind fun w34 =>
      if sd_ok s w34 26 = true then
        if sv_ib x1 (sv_ln s w34) = true then
          (s.2.2.1 w34 x1.toNatClampNeg).bind fun w36 =>
          if sd_ok s w36 20 = true then
            if sv_ib ((x2 * (16 : Int32)) + x2) (sv_ln s w36) = true then
              ss_let (sv_setI s w36 ((x2 * (16 : Int32)) + x2).toNatClampNeg (0 : Int32)) fun s38 =>
              ss_let (x2 + (1 : Int32)) fun v39 =>
              FD_Ro_init_b71 kc52 n a0 x1 v39 s38
            else none
          else none
        else none
      else none
    else none
theorem VD_Ro_init_b71 (E : sv_E) (d : Nat) (kc52 : Nat → Int32 → sv_H → Option (sv_H)) (hc52 : ∀ (a0 : Nat) (x1 : Int32) (s : sv_H), sv_V E m_Ro_init (d + 1) sd_v 52 [(0, sv_r E a0), (1, .int x1)] [] s (kc52 a0 x1 s)) : ∀ (n : Nat) (a0 : Nat) (x1 : Int32) (x2 : Int32) (s : sv_H), sv_V E m_Ro_init (d + 1) sd_v 71 [(0, sv_r E a0), (1, .int x1), (2, .int x2)] [] s (FD_Ro_init_b71 kc52 n a0 x1 x2 s) := by
  intro n
  induction n with
  | zero => intro a0 x1 x2 s; exact sv_none
  | succ n ih =>
    intro a0 x1 x2 s
    unfold FD_Ro_init_b71
    refine sv_iload_n (pc := 71) 2 (sv_d k_Ro_init 36 rfl) rfl rfl ?_
    refine sv_bipush (pc := 72) (v := (16 : Int32)) (sv_d k_Ro_init 37 rfl) (by decide) ?_
    refine sv_icmp_ge (pc := 74) (tgt := 97) (sv_d k_Ro_init 38 rfl) (by decide) ?_ ?_
    · refine ss_letr (fun v32 e_v32 => ?_)
      refine sv_iinc (pc := 97) (v := v32) (lv' := [(1, .int v32), (0, sv_r E a0), (2, .int x2)]) (sv_d k_Ro_init 52 rfl) (n := 1) rfl (by rw [e_v32]; rfl) (by decide) rfl ?_
      refine sv_goto (pc := 100) (tgt := 52) (sv_d k_Ro_init 53 rfl) (by decide) ?_
      exact sv_loc [1, 0] rfl (hc52 a0 v32 s)
    · refine sv_aload_n (pc := 77) 0 (sv_d k_Ro_init 39 rfl) rfl rfl ?_
      refine sd_gd (fun k_k33 o_k33 l_k33 => ?_)
      refine sd_getR (pc := 78) 3 (sv_d k_Ro_init 40 rfl) cf7 (by decide) w134 k_k33 l_k33 (fun _ => rfl) (fun w34 => ?_)
      refine sv_iload_n (pc := 81) 1 (sv_d k_Ro_init 41 rfl) rfl rfl ?_
      refine sd_gd (fun k_k35 o_k35 l_k35 => ?_)
      refine ss_ib (fun hin => sd_aald (pc := 82) (sv_d k_Ro_init 42 rfl) k_k35 (by decide) (by decide) rfl l_k35 hin (fun _ => rfl) (fun w36 => ?_))
      refine sv_iload_n (pc := 83) 2 (sv_d k_Ro_init 43 rfl) rfl rfl ?_
      refine sv_bipush (pc := 84) (v := (16 : Int32)) (sv_d k_Ro_init 44 rfl) (by decide) ?_
      refine sv_imul (pc := 86) (sv_d k_Ro_init 45 rfl) ?_
      refine sv_iload_n (pc := 87) 2 (sv_d k_Ro_init 46 rfl) rfl rfl ?_
      refine sv_iadd (pc := 88) (sv_d k_Ro_init 47 rfl) ?_
      refine sv_iconst (pc := 89) (v := (0 : Int32)) (sv_d k_Ro_init 48 rfl) (by decide) ?_
      refine sd_gd (fun k_k37 o_k37 l_k37 => ?_)
      refine ss_ib (fun hin => sv_iast (pc := 90) (sv_d k_Ro_init 49 rfl) k_k37 o_k37 l_k37 hin (sd_lets (fun s38 e_s38 => ?_)))
      refine ss_letr (fun v39 e_v39 => ?_)
      refine sv_iinc (pc := 91) (v := v39) (lv' := [(2, .int v39), (0, sv_r E a0), (1, .int x1)]) (sv_d k_Ro_init 50 rfl) (n := 2) rfl (by rw [e_v39]; rfl) (by decide) rfl ?_
      refine sv_goto (pc := 94) (tgt := 71) (sv_d k_Ro_init 51 rfl) (by decide) ?_
      exact sv_loc [1, 2, 0] rfl (ih a0 x1 v39 s38)
def FD_Ro_init_b52 : Nat → Nat → Int32 → sv_H → Option (sv_H)
  | 0 => fun _ _ _ => none
  | n + 1 => fun a0 x1 s =>
    if (7 : Int32) ≤ x1 then
      some s
    else
    if sd_ok s a0 7 = true then
      (s.2.2.1 a0 3).bind fun w27 =>
      if sd_ok s w27 26 = true then
        if sv_ib x1 (sv_ln s w27) = true then
          (s.2.2.1 w27 x1.toNatClampNeg).bind fun w29 =>
          (FD_JA_fillI w29 (1000000 : Int32) s).bind fun r31 =>
          FD_Ro_init_b71 (FD_Ro_init_b52  n) ss_F a0 x1 (0 : Int32) r31
        else none
      else none
    else none
theorem VD_Ro_init_b52 (E : sv_E) (d : Nat) : ∀ (n : Nat) (a0 : Nat) (x1 : Int32) (s : sv_H), sv_V E m_Ro_init (d + 1) sd_v 52 [(0, sv_r E a0), (1, .int x1)] [] s (FD_Ro_init_b52 n a0 x1 s) := by
  intro n
  induction n with
  | zero => intro a0 x1 s; exact sv_none
  | succ n ih =>
    intro a0 x1 s
    unfold FD_Ro_init_b52
    refine sv_iload_n (pc := 52) 1 (sv_d k_Ro_init 25 rfl) rfl rfl ?_
    refine sv_bipush (pc := 53) (v := (7 : Int32)) (sv_d k_Ro_init 26 rfl) (by decide) ?_
    refine sv_icmp_ge (pc := 55) (tgt := 103) (sv_d k_Ro_init 27 rfl) (by decide) ?_ ?_
    · exact sv_retv (pc := 103) (sv_d k_Ro_init 54 rfl) rfl rfl
    · refine sv_aload_n (pc := 58) 0 (sv_d k_Ro_init 28 rfl) rfl rfl ?_
      refine sd_gd (fun k_k26 o_k26 l_k26 => ?_)
      refine sd_getR (pc := 59) 3 (sv_d k_Ro_init 29 rfl) cf7 (by decide) w134 k_k26 l_k26 (fun _ => rfl) (fun w27 => ?_)
      refine sv_iload_n (pc := 62) 1 (sv_d k_Ro_init 30 rfl) rfl rfl ?_
      refine sd_gd (fun k_k28 o_k28 l_k28 => ?_)
      refine ss_ib (fun hin => sd_aald (pc := 63) (sv_d k_Ro_init 31 rfl) k_k28 (by decide) (by decide) rfl l_k28 hin (fun _ => rfl) (fun w29 => ?_))
      refine sv_ldc (pc := 64) (v := (1000000 : Int32)) w130 (sv_d k_Ro_init 32 rfl) ?_
      refine sv_callS (pc := 66) (ψ := sd_v) (As := [sv_r E w29, .int (1000000 : Int32)]) (rest := []) (sv_d k_Ro_init 33 rfl) g_JA_fillI w127 st_JA_fillI rfl (Nat.le_of_ble_eq_true rfl) (VD_JA_fillI E (d + 0) w29 (1000000 : Int32) s) (Nat.le_of_ble_eq_true rfl) rfl (fun r31 => ?_)
      show sv_V E _ _ _ 69 _ [] r31 _
      refine sv_iconst (pc := 69) (v := (0 : Int32)) (sv_d k_Ro_init 34 rfl) (by decide) ?_
      refine sv_istore_n (pc := 70) (lv' := [(2, .int (0 : Int32)), (0, sv_r E a0), (1, .int x1)]) (sv_d k_Ro_init 35 rfl) rfl (by decide) rfl ?_
      exact sv_loc [1, 2, 0] rfl (VD_Ro_init_b71 E d (FD_Ro_init_b52  n) ih ss_F a0 x1 (0 : Int32) r31)
def FD_Ro_init (a0 : Nat) (s : sv_H) : Option (sv_H) :=
  if sd_nb (40 : Int32) = true then
    ss_let (sv_nx s) fun w4 =>
    ss_let (sv_mk s 20 (40 : Int32).toNatClampNeg (40 : Int32).toNatClampNeg) fun s3 =>
    if sd_ok s3 a0 7 = true then
      ss_let (sv_setR s3 a0 0 (some w4)) fun s6 =>
      if sd_nb (40 : Int32) = true then
        ss_let (sv_nx s6) fun w9 =>
        ss_let (sv_mk s6 20 (40 : Int32).toNatClampNeg (40 : Int32).toNatClampNeg) fun s8 =>
        if sd_ok s8 a0 7 = true then
          ss_let (sv_setR s8 a0 1 (some w9)) fun s11 =>
          if sd_nb (256 : Int32) = true then
            ss_let (sv_nx s11) fun w14 =>
            ss_let (sv_mk s11 20 (256 : Int32).toNatClampNeg (256 : Int32).toNatClampNeg) fun s13 =>
            if sd_ok s13 a0 7 = true then
              ss_let (sv_setR s13 a0 2 (some w14)) fun s16 =>
              if sd_nb (7 : Int32) = true then if sd_nb (256 : Int32) = true then
                ss_let (sv_nx s16) fun w19 =>
                ss_let (sv_mkM s16 26 20 (7 : Int32).toNatClampNeg (256 : Int32).toNatClampNeg) fun s18 =>
                if sd_ok s18 a0 7 = true then
                  ss_let (sv_setR s18 a0 3 (some w19)) fun s21 =>
                  if sd_ok s21 a0 7 = true then
                    (s21.2.2.1 a0 2).bind fun w23 =>
                    (FD_JA_fillI w23 (-1 : Int32) s21).bind fun r25 =>
                    FD_Ro_init_b52 ss_F a0 (0 : Int32) r25
                  else none
                else none
              else none else none
            else none
          else none
        else none
      else none
    else none
  else none
theorem VD_Ro_init (E : sv_E) (d : Nat) (a0 : Nat) (s : sv_H) : sv_V E m_Ro_init (d + 1) sd_v 0 (lv_args 0 [sv_r E a0]) [] s (FD_Ro_init a0 s) := by
  show sv_V E m_Ro_init (d + 1) sd_v 0 [(0, sv_r E a0)] [] s _
  unfold FD_Ro_init
  refine sv_aload_n (pc := 0) 0 (sv_d k_Ro_init 0 rfl) rfl rfl ?_
  refine sv_objInit (pc := 1) (sv_d k_Ro_init 1 rfl) w124 (Nat.le_of_ble_eq_true rfl) ?_
  refine sv_aload_n (pc := 4) 0 (sv_d k_Ro_init 2 rfl) rfl rfl ?_
  refine sv_bipush (pc := 5) (v := (40 : Int32)) (sv_d k_Ro_init 3 rfl) (by decide) ?_
  refine ss_grd (fun hnb => ?_)
  refine ss_letr (fun w4 e_w4 => ?_)
  refine sv_newa (pc := 7) (kk := 20) (sv_d k_Ro_init 4 rfl) rfl wa20 hnb (sd_lets (fun s3 e_s3 => ?_))
  rw [← e_w4]
  refine sd_gd (fun k_k5 o_k5 l_k5 => ?_)
  refine sd_putRF (pc := 9) 0 (sv_d k_Ro_init 5 rfl) cf7 (by decide) rfl w131 rfl rfl k_k5 o_k5 l_k5  (fun _ => rfl) (sd_lets (fun s6 e_s6 => ?_))
  refine sv_aload_n (pc := 12) 0 (sv_d k_Ro_init 6 rfl) rfl rfl ?_
  refine sv_bipush (pc := 13) (v := (40 : Int32)) (sv_d k_Ro_init 7 rfl) (by decide) ?_
  refine ss_grd (fun hnb => ?_)
  refine ss_letr (fun w9 e_w9 => ?_)
  refine sv_newa (pc := 15) (kk := 20) (sv_d k_Ro_init 8 rfl) rfl wa20 hnb (sd_lets (fun s8 e_s8 => ?_))
  rw [← e_w9]
  refine sd_gd (fun k_k10 o_k10 l_k10 => ?_)
  refine sd_putRF (pc := 17) 1 (sv_d k_Ro_init 9 rfl) cf7 (by decide) rfl w132 rfl rfl k_k10 o_k10 l_k10  (fun _ => rfl) (sd_lets (fun s11 e_s11 => ?_))
  refine sv_aload_n (pc := 20) 0 (sv_d k_Ro_init 10 rfl) rfl rfl ?_
  refine sv_sipush (pc := 21) (v := (256 : Int32)) (sv_d k_Ro_init 11 rfl) (by decide) ?_
  refine ss_grd (fun hnb => ?_)
  refine ss_letr (fun w14 e_w14 => ?_)
  refine sv_newa (pc := 24) (kk := 20) (sv_d k_Ro_init 12 rfl) rfl wa20 hnb (sd_lets (fun s13 e_s13 => ?_))
  rw [← e_w14]
  refine sd_gd (fun k_k15 o_k15 l_k15 => ?_)
  refine sd_putRF (pc := 26) 2 (sv_d k_Ro_init 13 rfl) cf7 (by decide) rfl w133 rfl rfl k_k15 o_k15 l_k15  (fun _ => rfl) (sd_lets (fun s16 e_s16 => ?_))
  refine sv_aload_n (pc := 29) 0 (sv_d k_Ro_init 14 rfl) rfl rfl ?_
  refine sv_bipush (pc := 30) (v := (7 : Int32)) (sv_d k_Ro_init 15 rfl) (by decide) ?_
  refine sv_sipush (pc := 32) (v := (256 : Int32)) (sv_d k_Ro_init 16 rfl) (by decide) ?_
  refine ss_grd (fun hnb => ss_grd (fun hnk => ?_))
  refine ss_letr (fun w19 e_w19 => ?_)
  refine sv_multi26 (pc := 35) (sv_d k_Ro_init 17 rfl) w125 hnb hnk (sd_lets (fun s18 e_s18 => ?_))
  rw [← e_w19]
  refine sd_gd (fun k_k20 o_k20 l_k20 => ?_)
  refine sd_putRF (pc := 39) 3 (sv_d k_Ro_init 18 rfl) cf7 (by decide) rfl w134 rfl rfl k_k20 o_k20 l_k20  (fun _ => rfl) (sd_lets (fun s21 e_s21 => ?_))
  refine sv_aload_n (pc := 42) 0 (sv_d k_Ro_init 19 rfl) rfl rfl ?_
  refine sd_gd (fun k_k22 o_k22 l_k22 => ?_)
  refine sd_getR (pc := 43) 2 (sv_d k_Ro_init 20 rfl) cf7 (by decide) w133 k_k22 l_k22 (fun _ => rfl) (fun w23 => ?_)
  refine sv_iconst (pc := 46) (v := (-1 : Int32)) (sv_d k_Ro_init 21 rfl) (by decide) ?_
  refine sv_callS (pc := 47) (ψ := sd_v) (As := [sv_r E w23, .int (-1 : Int32)]) (rest := []) (sv_d k_Ro_init 22 rfl) g_JA_fillI w127 st_JA_fillI rfl (Nat.le_of_ble_eq_true rfl) (VD_JA_fillI E (d + 0) w23 (-1 : Int32) s21) (Nat.le_of_ble_eq_true rfl) rfl (fun r25 => ?_)
  show sv_V E _ _ _ 50 _ [] r25 _
  refine sv_iconst (pc := 50) (v := (0 : Int32)) (sv_d k_Ro_init 23 rfl) (by decide) ?_
  refine sv_istore_n (pc := 51) (lv' := [(1, .int (0 : Int32)), (0, sv_r E a0)]) (sv_d k_Ro_init 24 rfl) rfl (by decide) rfl ?_
  exact sv_loc [1, 0] rfl (VD_Ro_init_b52 E d ss_F a0 (0 : Int32) r25)
/-! Ta_init -/
abbrev m_Ta_init : sv_M := (yX8_init, cX8_init, 1, none)
def t_Ta_init : List (Nat × Instr × Nat) := [(0, .aload_n 0, 1), (1, .invokespecial 1, 3), (4, .aload_n 0, 1), (5, .bipush 6, 2), (7, .newarray .int, 2), (9, .putfield 9, 3), (12, .aload_n 0, 1), (13, .bipush 6, 2), (15, .newarray .int, 2), (17, .putfield 13, 3), (20, .aload_n 0, 1), (21, .bipush 6, 2), (23, .bipush 80, 2), (25, .multianewarray 16 2, 4), (29, .putfield 18, 3), (32, .aload_n 0, 1), (33, .getfield 9, 3), (36, .iconst (-1), 1), (37, .invokestatic 21, 3), (40, .return_, 1)]
theorem k_Ta_init : sv_tk m_Ta_init.2.1 t_Ta_init := by decide +kernel
theorem g_Ta_init : sv_G m_Ta_init 0 := ⟨by decide +kernel, sv_in 497 (by decide +kernel) rfl, sv_in 102 (by decide +kernel) rfl, ⟨by decide, by decide⟩, by decide +kernel, by decide⟩
theorem in_Ta_init : Cond.instanceMethod m_Ta_init.1 ∈ sv_T := sv_in 496 (by decide +kernel) rfl
def FD_Ta_init (a0 : Nat) (s : sv_H) : Option (sv_H) :=
  if sd_nb (6 : Int32) = true then
    ss_let (sv_nx s) fun w4 =>
    ss_let (sv_mk s 20 (6 : Int32).toNatClampNeg (6 : Int32).toNatClampNeg) fun s3 =>
    if sd_ok s3 a0 8 = true then
      ss_let (sv_setR s3 a0 0 (some w4)) fun s6 =>
      if sd_nb (6 : Int32) = true then
        ss_let (sv_nx s6) fun w9 =>
        ss_let (sv_mk s6 20 (6 : Int32).toNatClampNeg (6 : Int32).toNatClampNeg) fun s8 =>
        if sd_ok s8 a0 8 = true then
          ss_let (sv_setR s8 a0 1 (some w9)) fun s11 =>
          if sd_nb (6 : Int32) = true then if sd_nb (80 : Int32) = true then
            ss_let (sv_nx s11) fun w14 =>
            ss_let (sv_mkM s11 27 21 (6 : Int32).toNatClampNeg (80 : Int32).toNatClampNeg) fun s13 =>
            if sd_ok s13 a0 8 = true then
              ss_let (sv_setR s13 a0 2 (some w14)) fun s16 =>
              if sd_ok s16 a0 8 = true then
                (s16.2.2.1 a0 0).bind fun w18 =>
                (FD_JA_fillI w18 (-1 : Int32) s16).bind fun r20 =>
                some r20
              else none
            else none
          else none else none
        else none
      else none
    else none
  else none
theorem VD_Ta_init (E : sv_E) (d : Nat) (a0 : Nat) (s : sv_H) : sv_V E m_Ta_init (d + 1) sd_v 0 (lv_args 0 [sv_r E a0]) [] s (FD_Ta_init a0 s) := by
  show sv_V E m_Ta_init (d + 1) sd_v 0 [(0, sv_r E a0)] [] s _
  unfold FD_Ta_init
  refine sv_aload_n (pc := 0) 0 (sv_d k_Ta_init 0 rfl) rfl rfl ?_
  refine sv_objInit (pc := 1) (sv_d k_Ta_init 1 rfl) w498 (Nat.le_of_ble_eq_true rfl) ?_
  refine sv_aload_n (pc := 4) 0 (sv_d k_Ta_init 2 rfl) rfl rfl ?_
  refine sv_bipush (pc := 5) (v := (6 : Int32)) (sv_d k_Ta_init 3 rfl) (by decide) ?_
  refine ss_grd (fun hnb => ?_)
  refine ss_letr (fun w4 e_w4 => ?_)
  refine sv_newa (pc := 7) (kk := 20) (sv_d k_Ta_init 4 rfl) rfl wa20 hnb (sd_lets (fun s3 e_s3 => ?_))
  rw [← e_w4]
  refine sd_gd (fun k_k5 o_k5 l_k5 => ?_)
  refine sd_putRF (pc := 9) 0 (sv_d k_Ta_init 5 rfl) cf8 (by decide) rfl w502 rfl rfl k_k5 o_k5 l_k5  (fun _ => rfl) (sd_lets (fun s6 e_s6 => ?_))
  refine sv_aload_n (pc := 12) 0 (sv_d k_Ta_init 6 rfl) rfl rfl ?_
  refine sv_bipush (pc := 13) (v := (6 : Int32)) (sv_d k_Ta_init 7 rfl) (by decide) ?_
  refine ss_grd (fun hnb => ?_)
  refine ss_letr (fun w9 e_w9 => ?_)
  refine sv_newa (pc := 15) (kk := 20) (sv_d k_Ta_init 8 rfl) rfl wa20 hnb (sd_lets (fun s8 e_s8 => ?_))
  rw [← e_w9]
  refine sd_gd (fun k_k10 o_k10 l_k10 => ?_)
  refine sd_putRF (pc := 17) 1 (sv_d k_Ta_init 9 rfl) cf8 (by decide) rfl w504 rfl rfl k_k10 o_k10 l_k10  (fun _ => rfl) (sd_lets (fun s11 e_s11 => ?_))
  refine sv_aload_n (pc := 20) 0 (sv_d k_Ta_init 10 rfl) rfl rfl ?_
  refine sv_bipush (pc := 21) (v := (6 : Int32)) (sv_d k_Ta_init 11 rfl) (by decide) ?_
  refine sv_bipush (pc := 23) (v := (80 : Int32)) (sv_d k_Ta_init 12 rfl) (by decide) ?_
  refine ss_grd (fun hnb => ss_grd (fun hnk => ?_))
  refine ss_letr (fun w14 e_w14 => ?_)
  refine sv_multi27 (pc := 25) (sv_d k_Ta_init 13 rfl) w499 hnb hnk (sd_lets (fun s13 e_s13 => ?_))
  rw [← e_w14]
  refine sd_gd (fun k_k15 o_k15 l_k15 => ?_)
  refine sd_putRF (pc := 29) 2 (sv_d k_Ta_init 14 rfl) cf8 (by decide) rfl w506 rfl rfl k_k15 o_k15 l_k15  (fun _ => rfl) (sd_lets (fun s16 e_s16 => ?_))
  refine sv_aload_n (pc := 32) 0 (sv_d k_Ta_init 15 rfl) rfl rfl ?_
  refine sd_gd (fun k_k17 o_k17 l_k17 => ?_)
  refine sd_getR (pc := 33) 0 (sv_d k_Ta_init 16 rfl) cf8 (by decide) w502 k_k17 l_k17 (fun _ => rfl) (fun w18 => ?_)
  refine sv_iconst (pc := 36) (v := (-1 : Int32)) (sv_d k_Ta_init 17 rfl) (by decide) ?_
  refine sv_callS (pc := 37) (ψ := sd_v) (As := [sv_r E w18, .int (-1 : Int32)]) (rest := []) (sv_d k_Ta_init 18 rfl) g_JA_fillI w501 st_JA_fillI rfl (Nat.le_of_ble_eq_true rfl) (VD_JA_fillI E (d + 0) w18 (-1 : Int32) s16) (Nat.le_of_ble_eq_true rfl) rfl (fun r20 => ?_)
  show sv_V E _ _ _ 40 _ [] r20 _
  exact sv_retv (pc := 40) (sv_d k_Ta_init 19 rfl) rfl rfl
/-! X_init -/
abbrev m_X_init : sv_M := (yX11_init, cX11_init, 1, none)
def t_X_init : List (Nat × Instr × Nat) := [(0, .aload_n 0, 1), (1, .invokespecial 3, 3), (4, .aload_n 0, 1), (5, .new 9, 3), (8, .dup, 1), (9, .invokespecial 11, 3), (12, .putfield 12, 3), (15, .aload_n 0, 1), (16, .new 18, 3), (19, .dup, 1), (20, .invokespecial 20, 3), (23, .putfield 21, 3), (26, .aload_n 0, 1), (27, .new 25, 3), (30, .dup, 1), (31, .invokespecial 27, 3), (34, .putfield 28, 3), (37, .aload_n 0, 1), (38, .new 32, 3), (41, .dup, 1), (42, .aload_n 0, 1), (43, .getfield 12, 3), (46, .aload_n 0, 1), (47, .getfield 28, 3), (50, .invokespecial 34, 3), (53, .putfield 37, 3), (56, .aload_n 0, 1), (57, .new 41, 3), (60, .dup, 1), (61, .aload_n 0, 1), (62, .getfield 37, 3), (65, .aload_n 0, 1), (66, .getfield 28, 3), (69, .invokespecial 43, 3), (72, .putfield 46, 3), (75, .aload_n 0, 1), (76, .new 50, 3), (79, .dup, 1), (80, .aload_n 0, 1), (81, .getfield 37, 3), (84, .invokespecial 52, 3), (87, .putfield 55, 3), (90, .aload_n 0, 1), (91, .new 59, 3), (94, .dup, 1), (95, .aload_n 0, 1), (96, .getfield 37, 3), (99, .aload_n 0, 1), (100, .getfield 55, 3), (103, .invokespecial 61, 3), (106, .putfield 64, 3), (109, .aload_n 0, 1), (110, .new 68, 3), (113, .dup, 1), (114, .invokespecial 70, 3), (117, .putfield 71, 3), (120, .aload_n 0, 1), (121, .new 75, 3), (124, .dup, 1), (125, .invokespecial 77, 3), (128, .putfield 78, 3), (131, .aload_n 0, 1), (132, .bipush (-3), 2), (134, .putfield 82, 3), (137, .return_, 1)]
theorem k_X_init : sv_tk m_X_init.2.1 t_X_init := by decide +kernel
theorem g_X_init : sv_G m_X_init 0 := ⟨by decide +kernel, sv_in 115 (by decide +kernel) rfl, sv_in 90 (by decide +kernel) rfl, ⟨by decide, by decide⟩, by decide +kernel, by decide⟩
theorem in_X_init : Cond.instanceMethod m_X_init.1 ∈ sv_T := sv_in 114 (by decide +kernel) rfl
def FD_X_init (a0 : Nat) (s : sv_H) : Option (sv_H) :=
  ss_let (sv_nx s) fun w4 =>
  ss_let (sv_mk s 7 0 5) fun s3 =>
  (FD_Ro_init w4 s3).bind fun r6 =>
  if sd_ok r6 a0 11 = true then
    ss_let (sv_setR r6 a0 0 (some w4)) fun s8 =>
    ss_let (sv_nx s8) fun w11 =>
    ss_let (sv_mk s8 3 0 10) fun s10 =>
    (FD_Lt_init w11 s10).bind fun r13 =>
    if sd_ok r13 a0 11 = true then
      ss_let (sv_setR r13 a0 1 (some w11)) fun s15 =>
      ss_let (sv_nx s15) fun w18 =>
      ss_let (sv_mk s15 4 0 5) fun s17 =>
      (FD_Ls_init w18 s17).bind fun r20 =>
      if sd_ok r20 a0 11 = true then
        ss_let (sv_setR r20 a0 2 (some w18)) fun s22 =>
        ss_let (sv_nx s22) fun w25 =>
        ss_let (sv_mk s22 6 0 5) fun s24 =>
        if sd_ok s24 a0 11 = true then
          (s24.2.2.1 a0 0).bind fun w27 =>
          if sd_ok s24 a0 11 = true then
            (s24.2.2.1 a0 2).bind fun w29 =>
            (FD_Rs_init w25 w27 w29 s24).bind fun r31 =>
            if sd_ok r31 a0 11 = true then
              ss_let (sv_setR r31 a0 3 (some w25)) fun s33 =>
              ss_let (sv_nx s33) fun w36 =>
              ss_let (sv_mk s33 9 0 11) fun s35 =>
              if sd_ok s35 a0 11 = true then
                (s35.2.2.1 a0 3).bind fun w38 =>
                if sd_ok s35 a0 11 = true then
                  (s35.2.2.1 a0 2).bind fun w40 =>
                  (FD_Tr_init w36 w38 w40 s35).bind fun r42 =>
                  if sd_ok r42 a0 11 = true then
                    ss_let (sv_setR r42 a0 4 (some w36)) fun s44 =>
                    ss_let (sv_nx s44) fun w47 =>
                    ss_let (sv_mk s44 1 0 6) fun s46 =>
                    if sd_ok s46 a0 11 = true then
                      (s46.2.2.1 a0 3).bind fun w49 =>
                      (FD_Ca_init w47 w49 s46).bind fun r51 =>
                      if sd_ok r51 a0 11 = true then
                        ss_let (sv_setR r51 a0 5 (some w47)) fun s53 =>
                        ss_let (sv_nx s53) fun w56 =>
                        ss_let (sv_mk s53 10 0 15) fun s55 =>
                        if sd_ok s55 a0 11 = true then
                          (s55.2.2.1 a0 3).bind fun w58 =>
                          if sd_ok s55 a0 11 = true then
                            (s55.2.2.1 a0 5).bind fun w60 =>
                            (FD_Wa_init w56 w58 w60 s55).bind fun r62 =>
                            if sd_ok r62 a0 11 = true then
                              ss_let (sv_setR r62 a0 6 (some w56)) fun s64 =>
                              ss_let (sv_nx s64) fun w67 =>
                              ss_let (sv_mk s64 0 0 6) fun s66 =>
                              (FD_Ac_init w67 s66).bind fun r69 =>
                              if sd_ok r69 a0 11 = true then
                                ss_let (sv_setR r69 a0 7 (some w67)) fun s71 =>
                                ss_let (sv_nx s71) fun w74 =>
                                ss_let (sv_mk s71 8 0 3) fun s73 =>
                                (FD_Ta_init w74 s73).bind fun r76 =>
                                if sd_ok r76 a0 11 = true then
                                  ss_let (sv_setR r76 a0 8 (some w74)) fun s78 =>
                                  if sd_ok s78 a0 11 = true then
                                    ss_let (sv_setI s78 a0 10 (-3 : Int32)) fun s80 =>
                                    some s80
                                  else none
                                else none
                              else none
                            else none
                          else none
                        else none
                      else none
                    else none
                  else none
                else none
              else none
            else none
          else none
        else none
      else none
    else none
  else none
theorem VD_X_init (E : sv_E) (d : Nat) (a0 : Nat) (s : sv_H) : sv_V E m_X_init (d + 3) sd_v 0 (lv_args 0 [sv_r E a0]) [] s (FD_X_init a0 s) := by
  show sv_V E m_X_init (d + 3) sd_v 0 [(0, sv_r E a0)] [] s _
  unfold FD_X_init
  refine sv_aload_n (pc := 0) 0 (sv_d k_X_init 0 rfl) rfl rfl ?_
  refine sv_objInit (pc := 1) (sv_d k_X_init 1 rfl) w116 (Nat.le_of_ble_eq_true rfl) ?_
  refine sv_aload_n (pc := 4) 0 (sv_d k_X_init 2 rfl) rfl rfl ?_
  refine ss_letr (fun w4 e_w4 => ?_)
  refine sv_new (pc := 5) (sv_d k_X_init 3 rfl) cf7 w119 wi7 wn7 (by decide +kernel) (sd_lets (fun s3 e_s3 => ?_))
  rw [← e_w4]
  refine sv_dup (pc := 8) (sv_d k_X_init 4 rfl) rfl ?_
  refine sv_callI (pc := 9) (ψ := sd_v) (As := []) (rest := [sv_r E w4, sv_r E a0]) (c := w4) (sv_d k_X_init 5 rfl) g_Ro_init rfl rfl w121 in_Ro_init rfl (Nat.le_of_ble_eq_true rfl) (VD_Ro_init E (d + 1) w4 s3) (Nat.le_of_ble_eq_true rfl) rfl (fun r6 => ?_)
  show sv_V E _ _ _ 12 _ [sv_r E w4, sv_r E a0] r6 _
  refine sd_gd (fun k_k7 o_k7 l_k7 => ?_)
  refine sd_putRF (pc := 12) 0 (sv_d k_X_init 6 rfl) cf11 (by decide) rfl w516 rfl rfl k_k7 o_k7 l_k7  (fun _ => rfl) (sd_lets (fun s8 e_s8 => ?_))
  refine sv_aload_n (pc := 15) 0 (sv_d k_X_init 7 rfl) rfl rfl ?_
  refine ss_letr (fun w11 e_w11 => ?_)
  refine sv_new (pc := 16) (sv_d k_X_init 8 rfl) cf3 w149 wi3 wn3 (by decide +kernel) (sd_lets (fun s10 e_s10 => ?_))
  rw [← e_w11]
  refine sv_dup (pc := 19) (sv_d k_X_init 9 rfl) rfl ?_
  refine sv_callIN (pc := 20) (ψ := sd_v) (As := []) (rest := [sv_r E w11, sv_r E a0]) (c := w11) (sv_d k_X_init 10 rfl) g_Lt_init rfl rfl w151 in_Lt_init rfl (Nat.le_of_ble_eq_true rfl) (VD_Lt_init E (d + 1) w11 s10) (Nat.le_of_ble_eq_true rfl) rfl (fun r13 => ?_)
  show sv_V E _ _ _ 23 _ [sv_r E w11, sv_r E a0] r13 _
  refine sd_gd (fun k_k14 o_k14 l_k14 => ?_)
  refine sd_putRF (pc := 23) 1 (sv_d k_X_init 11 rfl) cf11 (by decide) rfl w517 rfl rfl k_k14 o_k14 l_k14  (fun _ => rfl) (sd_lets (fun s15 e_s15 => ?_))
  refine sv_aload_n (pc := 26) 0 (sv_d k_X_init 12 rfl) rfl rfl ?_
  refine ss_letr (fun w18 e_w18 => ?_)
  refine sv_new (pc := 27) (sv_d k_X_init 13 rfl) cf4 w190 wi4 wn4 (by decide +kernel) (sd_lets (fun s17 e_s17 => ?_))
  rw [← e_w18]
  refine sv_dup (pc := 30) (sv_d k_X_init 14 rfl) rfl ?_
  refine sv_callI (pc := 31) (ψ := sd_v) (As := []) (rest := [sv_r E w18, sv_r E a0]) (c := w18) (sv_d k_X_init 15 rfl) g_Ls_init rfl rfl w192 in_Ls_init rfl (Nat.le_of_ble_eq_true rfl) (VD_Ls_init E (d + 0) w18 s17) (Nat.le_of_ble_eq_true rfl) rfl (fun r20 => ?_)
  show sv_V E _ _ _ 34 _ [sv_r E w18, sv_r E a0] r20 _
  refine sd_gd (fun k_k21 o_k21 l_k21 => ?_)
  refine sd_putRF (pc := 34) 2 (sv_d k_X_init 16 rfl) cf11 (by decide) rfl w518 rfl rfl k_k21 o_k21 l_k21  (fun _ => rfl) (sd_lets (fun s22 e_s22 => ?_))
  refine sv_aload_n (pc := 37) 0 (sv_d k_X_init 17 rfl) rfl rfl ?_
  refine ss_letr (fun w25 e_w25 => ?_)
  refine sv_new (pc := 38) (sv_d k_X_init 18 rfl) cf6 w246 wi6 wn6 (by decide +kernel) (sd_lets (fun s24 e_s24 => ?_))
  rw [← e_w25]
  refine sv_dup (pc := 41) (sv_d k_X_init 19 rfl) rfl ?_
  refine sv_aload_n (pc := 42) 0 (sv_d k_X_init 20 rfl) rfl rfl ?_
  refine sd_gd (fun k_k26 o_k26 l_k26 => ?_)
  refine sd_getR (pc := 43) 0 (sv_d k_X_init 21 rfl) cf11 (by decide) w516 k_k26 l_k26 (fun _ => rfl) (fun w27 => ?_)
  refine sv_aload_n (pc := 46) 0 (sv_d k_X_init 22 rfl) rfl rfl ?_
  refine sd_gd (fun k_k28 o_k28 l_k28 => ?_)
  refine sd_getR (pc := 47) 2 (sv_d k_X_init 23 rfl) cf11 (by decide) w518 k_k28 l_k28 (fun _ => rfl) (fun w29 => ?_)
  refine sv_callI (pc := 50) (ψ := sd_v) (As := [sv_r E w27, sv_r E w29]) (rest := [sv_r E w25, sv_r E a0]) (c := w25) (sv_d k_X_init 24 rfl) g_Rs_init rfl rfl w248 in_Rs_init rfl (Nat.le_of_ble_eq_true rfl) (VD_Rs_init E (d + 0) w25 w27 w29 s24) (Nat.le_of_ble_eq_true rfl) rfl (fun r31 => ?_)
  show sv_V E _ _ _ 53 _ [sv_r E w25, sv_r E a0] r31 _
  refine sd_gd (fun k_k32 o_k32 l_k32 => ?_)
  refine sd_putRF (pc := 53) 3 (sv_d k_X_init 25 rfl) cf11 (by decide) rfl w519 rfl rfl k_k32 o_k32 l_k32  (fun _ => rfl) (sd_lets (fun s33 e_s33 => ?_))
  refine sv_aload_n (pc := 56) 0 (sv_d k_X_init 26 rfl) rfl rfl ?_
  refine ss_letr (fun w36 e_w36 => ?_)
  refine sv_new (pc := 57) (sv_d k_X_init 27 rfl) cf9 w345 wi9 wn9 (by decide +kernel) (sd_lets (fun s35 e_s35 => ?_))
  rw [← e_w36]
  refine sv_dup (pc := 60) (sv_d k_X_init 28 rfl) rfl ?_
  refine sv_aload_n (pc := 61) 0 (sv_d k_X_init 29 rfl) rfl rfl ?_
  refine sd_gd (fun k_k37 o_k37 l_k37 => ?_)
  refine sd_getR (pc := 62) 3 (sv_d k_X_init 30 rfl) cf11 (by decide) w519 k_k37 l_k37 (fun _ => rfl) (fun w38 => ?_)
  refine sv_aload_n (pc := 65) 0 (sv_d k_X_init 31 rfl) rfl rfl ?_
  refine sd_gd (fun k_k39 o_k39 l_k39 => ?_)
  refine sd_getR (pc := 66) 2 (sv_d k_X_init 32 rfl) cf11 (by decide) w518 k_k39 l_k39 (fun _ => rfl) (fun w40 => ?_)
  refine sv_callI (pc := 69) (ψ := sd_v) (As := [sv_r E w38, sv_r E w40]) (rest := [sv_r E w36, sv_r E a0]) (c := w36) (sv_d k_X_init 33 rfl) g_Tr_init rfl rfl w347 in_Tr_init rfl (Nat.le_of_ble_eq_true rfl) (VD_Tr_init E (d + 1) w36 w38 w40 s35) (Nat.le_of_ble_eq_true rfl) rfl (fun r42 => ?_)
  show sv_V E _ _ _ 72 _ [sv_r E w36, sv_r E a0] r42 _
  refine sd_gd (fun k_k43 o_k43 l_k43 => ?_)
  refine sd_putRF (pc := 72) 4 (sv_d k_X_init 34 rfl) cf11 (by decide) rfl w520 rfl rfl k_k43 o_k43 l_k43  (fun _ => rfl) (sd_lets (fun s44 e_s44 => ?_))
  refine sv_aload_n (pc := 75) 0 (sv_d k_X_init 35 rfl) rfl rfl ?_
  refine ss_letr (fun w47 e_w47 => ?_)
  refine sv_new (pc := 76) (sv_d k_X_init 36 rfl) cf1 w386 wi1 wn1 (by decide +kernel) (sd_lets (fun s46 e_s46 => ?_))
  rw [← e_w47]
  refine sv_dup (pc := 79) (sv_d k_X_init 37 rfl) rfl ?_
  refine sv_aload_n (pc := 80) 0 (sv_d k_X_init 38 rfl) rfl rfl ?_
  refine sd_gd (fun k_k48 o_k48 l_k48 => ?_)
  refine sd_getR (pc := 81) 3 (sv_d k_X_init 39 rfl) cf11 (by decide) w519 k_k48 l_k48 (fun _ => rfl) (fun w49 => ?_)
  refine sv_callI (pc := 84) (ψ := sd_v) (As := [sv_r E w49]) (rest := [sv_r E w47, sv_r E a0]) (c := w47) (sv_d k_X_init 40 rfl) g_Ca_init rfl rfl w388 in_Ca_init rfl (Nat.le_of_ble_eq_true rfl) (VD_Ca_init E (d + 1) w47 w49 s46) (Nat.le_of_ble_eq_true rfl) rfl (fun r51 => ?_)
  show sv_V E _ _ _ 87 _ [sv_r E w47, sv_r E a0] r51 _
  refine sd_gd (fun k_k52 o_k52 l_k52 => ?_)
  refine sd_putRF (pc := 87) 5 (sv_d k_X_init 41 rfl) cf11 (by decide) rfl w521 rfl rfl k_k52 o_k52 l_k52  (fun _ => rfl) (sd_lets (fun s53 e_s53 => ?_))
  refine sv_aload_n (pc := 90) 0 (sv_d k_X_init 42 rfl) rfl rfl ?_
  refine ss_letr (fun w56 e_w56 => ?_)
  refine sv_new (pc := 91) (sv_d k_X_init 43 rfl) cf10 w412 wi10 wn10 (by decide +kernel) (sd_lets (fun s55 e_s55 => ?_))
  rw [← e_w56]
  refine sv_dup (pc := 94) (sv_d k_X_init 44 rfl) rfl ?_
  refine sv_aload_n (pc := 95) 0 (sv_d k_X_init 45 rfl) rfl rfl ?_
  refine sd_gd (fun k_k57 o_k57 l_k57 => ?_)
  refine sd_getR (pc := 96) 3 (sv_d k_X_init 46 rfl) cf11 (by decide) w519 k_k57 l_k57 (fun _ => rfl) (fun w58 => ?_)
  refine sv_aload_n (pc := 99) 0 (sv_d k_X_init 47 rfl) rfl rfl ?_
  refine sd_gd (fun k_k59 o_k59 l_k59 => ?_)
  refine sd_getR (pc := 100) 5 (sv_d k_X_init 48 rfl) cf11 (by decide) w521 k_k59 l_k59 (fun _ => rfl) (fun w60 => ?_)
  refine sv_callI (pc := 103) (ψ := sd_v) (As := [sv_r E w58, sv_r E w60]) (rest := [sv_r E w56, sv_r E a0]) (c := w56) (sv_d k_X_init 49 rfl) g_Wa_init rfl rfl w414 in_Wa_init rfl (Nat.le_of_ble_eq_true rfl) (VD_Wa_init E (d + 1) w56 w58 w60 s55) (Nat.le_of_ble_eq_true rfl) rfl (fun r62 => ?_)
  show sv_V E _ _ _ 106 _ [sv_r E w56, sv_r E a0] r62 _
  refine sd_gd (fun k_k63 o_k63 l_k63 => ?_)
  refine sd_putRF (pc := 106) 6 (sv_d k_X_init 50 rfl) cf11 (by decide) rfl w522 rfl rfl k_k63 o_k63 l_k63  (fun _ => rfl) (sd_lets (fun s64 e_s64 => ?_))
  refine sv_aload_n (pc := 109) 0 (sv_d k_X_init 51 rfl) rfl rfl ?_
  refine ss_letr (fun w67 e_w67 => ?_)
  refine sv_new (pc := 110) (sv_d k_X_init 52 rfl) cf0 w466 wi0 wn0 (by decide +kernel) (sd_lets (fun s66 e_s66 => ?_))
  rw [← e_w67]
  refine sv_dup (pc := 113) (sv_d k_X_init 53 rfl) rfl ?_
  refine sv_callIN (pc := 114) (ψ := sd_v) (As := []) (rest := [sv_r E w67, sv_r E a0]) (c := w67) (sv_d k_X_init 54 rfl) g_Ac_init rfl rfl w468 in_Ac_init rfl (Nat.le_of_ble_eq_true rfl) (VD_Ac_init E (d + 1) w67 s66) (Nat.le_of_ble_eq_true rfl) rfl (fun r69 => ?_)
  show sv_V E _ _ _ 117 _ [sv_r E w67, sv_r E a0] r69 _
  refine sd_gd (fun k_k70 o_k70 l_k70 => ?_)
  refine sd_putRF (pc := 117) 7 (sv_d k_X_init 55 rfl) cf11 (by decide) rfl w523 rfl rfl k_k70 o_k70 l_k70  (fun _ => rfl) (sd_lets (fun s71 e_s71 => ?_))
  refine sv_aload_n (pc := 120) 0 (sv_d k_X_init 56 rfl) rfl rfl ?_
  refine ss_letr (fun w74 e_w74 => ?_)
  refine sv_new (pc := 121) (sv_d k_X_init 57 rfl) cf8 w493 wi8 wn8 (by decide +kernel) (sd_lets (fun s73 e_s73 => ?_))
  rw [← e_w74]
  refine sv_dup (pc := 124) (sv_d k_X_init 58 rfl) rfl ?_
  refine sv_callI (pc := 125) (ψ := sd_v) (As := []) (rest := [sv_r E w74, sv_r E a0]) (c := w74) (sv_d k_X_init 59 rfl) g_Ta_init rfl rfl w495 in_Ta_init rfl (Nat.le_of_ble_eq_true rfl) (VD_Ta_init E (d + 1) w74 s73) (Nat.le_of_ble_eq_true rfl) rfl (fun r76 => ?_)
  show sv_V E _ _ _ 128 _ [sv_r E w74, sv_r E a0] r76 _
  refine sd_gd (fun k_k77 o_k77 l_k77 => ?_)
  refine sd_putRF (pc := 128) 8 (sv_d k_X_init 60 rfl) cf11 (by decide) rfl w524 rfl rfl k_k77 o_k77 l_k77  (fun _ => rfl) (sd_lets (fun s78 e_s78 => ?_))
  refine sv_aload_n (pc := 131) 0 (sv_d k_X_init 61 rfl) rfl rfl ?_
  refine sv_bipush (pc := 132) (v := (-3 : Int32)) (sv_d k_X_init 62 rfl) (by decide) ?_
  refine sd_gd (fun k_k79 o_k79 l_k79 => ?_)
  refine sd_putI (pc := 134) 10 (sv_d k_X_init 63 rfl) cf11 (by decide) rfl w526 k_k79 o_k79 l_k79 rfl rfl (fun _ => rfl) (sd_lets (fun s80 e_s80 => ?_))
  exact sv_retv (pc := 137) (sv_d k_X_init 64 rfl) rfl rfl
