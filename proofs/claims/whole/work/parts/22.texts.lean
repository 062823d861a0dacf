/-! texts: String constants, their bytes, String's own methods -/
theorem ss_lx {a k : Nat} {s : sv_S} (h : ss_K a = k) (hk : k ≠ 2 ∧ k ≠ 20 := by decide) : a < sv_nx (ss_e s) := by
  refine Nat.lt_of_lt_of_le (Nat.not_le.mp fun q => ?_) (Nat.le_add_right 243 _)
  unfold ss_K at h
  rw [if_neg (Nat.not_lt.mpr q)] at h
  split at h <;> omega
theorem ss_st3 (E : sv_E) : ("java/lang/String", "COMPACT_STRINGS", "Z", Value.int 1) ∈ sv_sta E := List.mem_cons_of_mem _ (List.mem_cons_of_mem _ List.mem_cons_self)
theorem ss_st4 (E : sv_E) : ("jdk/internal/util/Preconditions", "SIOOBE_FORMATTER", "Ljava/util/function/BiFunction;", sv_fm E) ∈ sv_sta E := List.mem_cons_of_mem _ (List.mem_cons_of_mem _ (List.mem_cons_of_mem _ List.mem_cons_self))
theorem sv_bly {v : Int32} (h : sv_bl v = true) : narrow .byte (.int v) = .int v := by
  rcases of_decide_eq_true h with rfl | rfl <;> rfl
def sv_ch (v : Int32) : Bool := decide (v.toUInt32.toUInt16.toUInt32.toInt32 = v)
theorem sv_chn {v : Int32} (h : sv_ch v = true) : narrow .char (.int v) = .int v := congrArg Value.int (of_decide_eq_true h)
theorem sv_P.str {E : sv_E} {s : State} {h : sv_H} {H : Heap} (hP : sv_P E s h H) {c : Nat} (hkd : sv_kd h c = 30) (hlt : c < sv_nx h) : sv_str E s h H c := by
  have h1 := hP.2.2.1 c hlt
  unfold sv_cell at h1
  rw [hkd, if_neg (by decide), if_neg (by decide), if_pos rfl] at h1
  exact h1
section SS3
variable {α β : Type} {E : sv_E} {M Mc : sv_M} {d pc n index : Nat} {φ : α → Option Value × sv_H} {ψ : β → Option Value × sv_H} {lv : List (Nat × Value)} {st rest As : List Value} {h : sv_H} {s : sv_S} {o : Option α} {oc : Option β} {kf : β → Option α}
theorem sv_ldcS {index : Nat} (i : Nat) (hi : i < 11) (hix : index = 82 + 2 * i) (hd : decode M.2.1 pc = .ok (.ldc index, 2)) (hM : M.1.cls = "PennyRates$LawText") (k : sv_V E M d φ (pc + 2) lv (sv_r E (3 + i) :: st) h o) : sv_V E M d φ pc lv st h o := by
  subst hix
  refine sv_rd (fun Fx hK hP kk2 => ?_) k
  exact va_ldcS Fx.1 Fx.2.1 (own := "PennyRates$LawText") (by rw [← hM]; exact Fx.2.2.2.1) (hK.2.2.2.1 i hi) hd kk2
theorem ss_getC {index a : Nat} (hd : decode M.2.1 pc = .ok (.getfield index, 3)) (hln : Cond.fieldLink M.1.cls index "java/lang/String" "coder" "B" ∈ sv_T) (hkd : ss_K a = 30) (hlt : a < sv_nx (ss_e s)) (k : sv_V E M d φ (pc + 3) lv (.int (s.1 a 1) :: st) (ss_e s) o) : sv_V E M d φ pc lv (sv_r E a :: st) (ss_e s) o := by
  refine sv_rd (fun Fx hK hP kk2 => ?_) k
  obtain ⟨cf, kc, fi, f, cell, h1, h2, h3, h4, h5, -⟩ := (hP.str hkd hlt).2.2
  exact W.getf Fx.1 Fx.2.1 Fx.2.2.2.1 (Fx.2.2.2.2.1 _ hln) h1 h2 h3 h4 h5 rfl rfl hd kk2
theorem ss_getVv {index a : Nat} {kf : Nat → Option α} (hd : decode M.2.1 pc = .ok (.getfield index, 3)) (hln : Cond.fieldLink M.1.cls index "java/lang/String" "value" "[B" ∈ sv_T) (hkd : ss_K a = 30) (hlt : a < sv_nx (ss_e s)) (k : ∀ v, sv_V E M d φ (pc + 3) lv (sv_r E v :: st) (ss_e s) (kf v)) : sv_V E M d φ pc lv (sv_r E a :: st) (ss_e s) ((ss_LR a 0).bind kf) := by
  have hne : ¬ (a = 82 ∨ a = 83) := fun h => by rcases h with rfl | rfl <;> exact absurd hkd (by decide +kernel)
  cases hz : ss_LR a 0 with
  | none => exact sv_none
  | some v =>
    refine sv_rd (fun Fx hK hP kk2 => ?_) (k v)
    obtain ⟨cf, kc, fi, f, cell, h1, h2, h3, h4, h5, -⟩ := (hP.str hkd hlt).2.1
    have e : sv_rf E ((ss_e s).2.2.1 a 0) = sv_r E v := by
      show sv_rf E (ss_R s.2.2.1 a 0) = _
      rw [ss_R, if_neg hne, hz]; rfl
    rw [e] at h5
    exact W.getf Fx.1 Fx.2.1 Fx.2.2.2.1 (Fx.2.2.2.2.1 _ hln) h1 h2 h3 h4 h5 rfl rfl hd kk2
theorem sv_callVS {c : Nat} (hd : decode M.2.1 pc = .ok (.invokevirtual index, 3)) (hG : sv_G Mc n) (hln : Cond.methodLink M.1.cls index Mc.1 ∈ sv_T) (hin : Cond.instanceMethod Mc.1 ∈ sv_T) (hse : Cond.selects Mc.1.cls Mc.1 Mc.1 ∈ sv_T) (hcl : Mc.1.cls = "java/lang/String") (hkd : sv_kd h c = 30) (hlt : c < sv_nx h) (hn : As.length = n) (hrest : (rest.map fun v => v.category).sum ≤ 8) (hc : sv_V E Mc d ψ 0 (lv_args 0 (sv_r E c :: As)) [] h oc) (hAs : (lg_sl (sv_r E c :: As)).length ≤ Mc.2.2.1) {st0 : List Value} (hst0 : As.reverse ++ sv_r E c :: rest = st0)
    (k : ∀ b, sv_V E M (d + 1) φ (pc + 3) lv ((ψ b).1.toList ++ rest) (ψ b).2 (kf b)) : sv_V E M (d + 1) φ pc lv st0 h (oc.bind kf) := by
  refine sv_call hG hc hAs (fun {p l e R s m args below meth cd H locs cells slots ls r h' mc ms} Fx hK hP hsz hPc r1 r2 hfit hM => ⟨_, va_runV (As := As) (rest := rest) (C := Mc.1.cls) ⟨Fx.1, Fx.2.1, Fx.2.2.1, Fx.2.2.2.1, Fx.2.2.2.2.1⟩ hM ⟨callB_of (ws' := sv_T) n Fx.2.2.2.2.1 (fun w hw => ?_) rfl rfl rfl (Fx.2.2.2.2.1 _ hG.2.2.1) (Fx.2.2.2.2.1 _ hln) ⟨hG.2.2.2.1.1, hG.2.2.2.1.2, hG.2.2.2.2.1⟩ (sv_rooms hG r1 r2), Fx.2.2.2.2.1 _ hin, Fx.2.2.2.2.1 _ hse⟩ ⟨sv_Pc.blind, ?_, hPc⟩ rfl hn hsz hst0.symm (lv_room hrest) hd hfit⟩) k
  · rcases List.mem_cons.mp hw with rfl | hw
    · exact sv_T_good _ hG.2.1
    · exact sv_T_good _ hw
  · obtain ⟨cell, h1, h2, h3, -⟩ := (hP.str hkd hlt).1
    exact ⟨cell, h1, h2, by rw [hcl]; exact h3⟩
end SS3
theorem kd3 : ss_K 3 = 30 := by decide +kernel
theorem kd4 : ss_K 4 = 30 := by decide +kernel
theorem kd5 : ss_K 5 = 30 := by decide +kernel
theorem kd6 : ss_K 6 = 30 := by decide +kernel
theorem kd7 : ss_K 7 = 30 := by decide +kernel
theorem kd8 : ss_K 8 = 30 := by decide +kernel
theorem kd9 : ss_K 9 = 30 := by decide +kernel
theorem kd10 : ss_K 10 = 30 := by decide +kernel
theorem kd11 : ss_K 11 = 30 := by decide +kernel
theorem kd12 : ss_K 12 = 30 := by decide +kernel
theorem kd13 : ss_K 13 = 30 := by decide +kernel
theorem kd14 : ss_K 14 = 22 := by decide +kernel
theorem kd15 : ss_K 15 = 22 := by decide +kernel
theorem kd16 : ss_K 16 = 22 := by decide +kernel
theorem kd17 : ss_K 17 = 22 := by decide +kernel
theorem kd18 : ss_K 18 = 22 := by decide +kernel
theorem kd19 : ss_K 19 = 22 := by decide +kernel
theorem kd20 : ss_K 20 = 22 := by decide +kernel
theorem kd21 : ss_K 21 = 22 := by decide +kernel
theorem kd22 : ss_K 22 = 22 := by decide +kernel
theorem kd23 : ss_K 23 = 22 := by decide +kernel
theorem kd24 : ss_K 24 = 22 := by decide +kernel
abbrev m_JP_checkIndex : sv_M := (yJ3_checkIndex_8e157, cJ3_checkIndex_8e157, 3, (some .int))
def t_JP_checkIndex : List (Nat × Instr × Nat) := [(0, .iload_n 0, 1), (1, .ifCond .lt 8, 3), (4, .iload_n 0, 1), (5, .iload_n 1, 1), (6, .if_icmp .lt 10, 3), (9, .aload_n 2, 1), (10, .iload_n 0, 1), (11, .iload_n 1, 1), (12, .invokestatic 95, 3), (15, .athrow, 1), (16, .iload_n 0, 1), (17, .ireturn, 1)]
theorem k_JP_checkIndex : sv_tk m_JP_checkIndex.2.1 t_JP_checkIndex := by decide +kernel
theorem g_JP_checkIndex : sv_G m_JP_checkIndex 3 := ⟨by decide +kernel, sv_in 691 (by decide +kernel) rfl, sv_in 107 (by decide +kernel) rfl, ⟨by decide, by decide⟩, by decide +kernel, by decide⟩
theorem st_JP_checkIndex : Cond.static m_JP_checkIndex.1 ∈ sv_T := sv_in 690 (by decide +kernel) rfl
def F_JP_checkIndex (x0 x1 : Int32) : Option Int32 := if x0 < 0 then none else if x0 < x1 then some x0 else none
theorem V_JP_checkIndex (E : sv_E) (d : Nat) (x0 x1 : Int32) (v : Value) (s : sv_S) : sv_V E m_JP_checkIndex (d + 0) (ss_pi s) 0 (lv_args 0 [.int x0, .int x1, v]) [] (ss_e s) (F_JP_checkIndex x0 x1) := by
  show sv_V E m_JP_checkIndex (d + 0) (ss_pi s) 0 [(0, .int x0), (1, .int x1), (2, v)] [] (ss_e s) _
  unfold F_JP_checkIndex
  refine sv_iload_n (pc := 0) 0 (sv_d k_JP_checkIndex 0 rfl) rfl rfl ?_
  refine sv_if_lt (pc := 1) (tgt := 9) (sv_d k_JP_checkIndex 1 rfl) (by decide) sv_none ?_
  refine sv_iload_n (pc := 4) 0 (sv_d k_JP_checkIndex 2 rfl) rfl rfl ?_
  refine sv_iload_n (pc := 5) 1 (sv_d k_JP_checkIndex 3 rfl) rfl rfl ?_
  refine sv_icmp_lt (pc := 6) (tgt := 16) (sv_d k_JP_checkIndex 4 rfl) (by decide) ?_ sv_none
  refine sv_iload_n (pc := 16) 0 (sv_d k_JP_checkIndex 10 rfl) rfl rfl ?_
  exact sv_ret (pc := 17) (sv_d k_JP_checkIndex 11 rfl) ⟨_, rfl, rfl⟩ rfl
abbrev m_JS_checkIndex : sv_M := (yJ0_checkIndex_df160, cJ0_checkIndex_df160, 2, none)
def t_JS_checkIndex : List (Nat × Instr × Nat) := [(0, .iload_n 0, 1), (1, .iload_n 1, 1), (2, .getstatic 1053, 3), (5, .invokestatic 1059, 3), (8, .pop, 1), (9, .return_, 1)]
theorem k_JS_checkIndex : sv_tk m_JS_checkIndex.2.1 t_JS_checkIndex := by decide +kernel
theorem g_JS_checkIndex : sv_G m_JS_checkIndex 2 := ⟨by decide +kernel, sv_in 686 (by decide +kernel) rfl, sv_in 105 (by decide +kernel) rfl, ⟨by decide, by decide⟩, by decide +kernel, by decide⟩
theorem st_JS_checkIndex : Cond.static m_JS_checkIndex.1 ∈ sv_T := sv_in 685 (by decide +kernel) rfl
def F_JS_checkIndex (x0 x1 : Int32) (s : sv_S) : Option sv_S := (F_JP_checkIndex x0 x1).bind fun _ => some s
theorem V_JS_checkIndex (E : sv_E) (d : Nat) (x0 x1 : Int32) (s : sv_S) : sv_V E m_JS_checkIndex (d + 1) ss_v 0 (lv_args 0 [.int x0, .int x1]) [] (ss_e s) (F_JS_checkIndex x0 x1 s) := by
  show sv_V E m_JS_checkIndex (d + 1) ss_v 0 [(0, .int x0), (1, .int x1)] [] (ss_e s) _
  unfold F_JS_checkIndex
  refine sv_iload_n (pc := 0) 0 (sv_d k_JS_checkIndex 0 rfl) rfl rfl ?_
  refine sv_iload_n (pc := 1) 1 (sv_d k_JS_checkIndex 1 rfl) rfl rfl ?_
  refine sv_gets (pc := 2) (ss_st4 E) (sv_d k_JS_checkIndex 2 rfl) w687 ?_
  have hcat : (lg_sl [.int x0, .int x1, sv_fm E]).length ≤ 3 := by
    unfold sv_fm
    split <;> exact Nat.le_of_ble_eq_true rfl
  refine sv_callS (pc := 5) (ψ := ss_pi s) (As := [.int x0, .int x1, sv_fm E]) (rest := []) (sv_d k_JS_checkIndex 3 rfl) g_JP_checkIndex w689 st_JP_checkIndex rfl (Nat.le_of_ble_eq_true rfl) (V_JP_checkIndex E d x0 x1 (sv_fm E) s) hcat rfl (fun r => ?_)
  show sv_V E _ _ _ 8 _ [.int r] (ss_e s) _
  refine sv_pop (pc := 8) (sv_d k_JS_checkIndex 4 rfl) rfl ?_
  exact sv_retv (pc := 9) (sv_d k_JS_checkIndex 5 rfl) rfl rfl
/-! JS_coder -/
abbrev m_JS_coder : sv_M := (yJ0_coder_7d493, cJ0_coder_7d493, 1, (some .byte))
def t_JS_coder : List (Nat × Instr × Nat) := [(0, .getstatic 38, 3), (3, .ifCond .eq 10, 3), (6, .aload_n 0, 1), (7, .getfield 15, 3), (10, .goto 4, 3), (13, .iconst 1, 1), (14, .ireturn, 1)]
theorem k_JS_coder : sv_tk m_JS_coder.2.1 t_JS_coder := by decide +kernel
theorem g_JS_coder : sv_G m_JS_coder 0 := ⟨by decide +kernel, sv_in 670 (by decide +kernel) rfl, sv_in 105 (by decide +kernel) rfl, ⟨by decide, by decide⟩, by decide +kernel, by decide⟩
theorem in_JS_coder : Cond.instanceMethod m_JS_coder.1 ∈ sv_T := sv_in 668 (by decide +kernel) rfl
theorem se_JS_coder : Cond.selects m_JS_coder.1.cls m_JS_coder.1 m_JS_coder.1 ∈ sv_T := sv_in 669 (by decide +kernel) rfl
def F_JS_coder (a0 : Nat) (s : sv_S) : Option (Int32) :=
  if (1 : Int32) = 0 then
    if sv_bl (1 : Int32) = true then some (1 : Int32) else none
  else
  if sv_bl (s.1 a0 1) = true then some (s.1 a0 1) else none
theorem V_JS_coder (E : sv_E) (d : Nat) (a0 : Nat) (s : sv_S) (h_a0 : ss_K a0 = 30) (l_a0 : a0 < 243 + s.2.2.2.2.1) : sv_V E m_JS_coder (d + 0) (ss_pi s) 0 (lv_args 0 [sv_r E a0]) [] (ss_e s) (F_JS_coder a0 s) := by
  show sv_V E m_JS_coder (d + 0) (ss_pi s) 0 [(0, sv_r E a0)] [] (ss_e s) _
  unfold F_JS_coder
  refine sv_gets (pc := 0) (ss_st3 E) (sv_d k_JS_coder 0 rfl) w671 ?_
  refine sv_if_eq (pc := 3) (tgt := 13) (sv_d k_JS_coder 1 rfl) (by decide) ?_ ?_
  · refine sv_iconst (pc := 13) (v := (1 : Int32)) (sv_d k_JS_coder 5 rfl) (by decide) ?_
    exact ss_grd (fun bb1 => sv_ret (pc := 14) (sv_d k_JS_coder 6 rfl) ⟨_, rfl, sv_bly bb1⟩ rfl)
  · refine sv_aload_n (pc := 6) 0 (sv_d k_JS_coder 2 rfl) rfl rfl ?_
    refine ss_getC (pc := 7) (sv_d k_JS_coder 3 rfl) w1945 h_a0 l_a0 ?_
    refine sv_goto (pc := 10) (tgt := 14) (sv_d k_JS_coder 4 rfl) (by decide) ?_
    exact ss_grd (fun bb2 => sv_ret (pc := 14) (sv_d k_JS_coder 6 rfl) ⟨_, rfl, sv_bly bb2⟩ rfl)
/-! JS_length -/
abbrev m_JS_length : sv_M := (yJ0_length_8abf5, cJ0_length_8abf5, 1, (some .int))
def t_JS_length : List (Nat × Instr × Nat) := [(0, .aload_n 0, 1), (1, .getfield 9, 3), (4, .arraylength, 1), (5, .aload_n 0, 1), (6, .invokevirtual 335, 3), (9, .ishr, 1), (10, .ireturn, 1)]
theorem k_JS_length : sv_tk m_JS_length.2.1 t_JS_length := by decide +kernel
theorem g_JS_length : sv_G m_JS_length 0 := ⟨by decide +kernel, sv_in 666 (by decide +kernel) rfl, sv_in 105 (by decide +kernel) rfl, ⟨by decide, by decide⟩, by decide +kernel, by decide⟩
theorem in_JS_length : Cond.instanceMethod m_JS_length.1 ∈ sv_T := sv_in 664 (by decide +kernel) rfl
theorem se_JS_length : Cond.selects m_JS_length.1.cls m_JS_length.1 m_JS_length.1 ∈ sv_T := sv_in 665 (by decide +kernel) rfl
def F_JS_length (a0 : Nat) (s : sv_S) : Option (Int32) :=
  (ss_LR a0 0).bind fun w1 => if ss_ok s w1 22 = true then
    (F_JS_coder a0 s).bind fun r2 =>
    some ((Int32.ofNat (ss_N s.2.2.2.1 w1)) >>> (r2 &&& 31))
  else none
theorem V_JS_length (E : sv_E) (d : Nat) (a0 : Nat) (s : sv_S) (h_a0 : ss_K a0 = 30) (l_a0 : a0 < 243 + s.2.2.2.2.1) : sv_V E m_JS_length (d + 1) (ss_pi s) 0 (lv_args 0 [sv_r E a0]) [] (ss_e s) (F_JS_length a0 s) := by
  show sv_V E m_JS_length (d + 1) (ss_pi s) 0 [(0, sv_r E a0)] [] (ss_e s) _
  unfold F_JS_length
  refine sv_aload_n (pc := 0) 0 (sv_d k_JS_length 0 rfl) rfl rfl ?_
  refine ss_getVv (pc := 1) (sv_d k_JS_length 1 rfl) w1944 h_a0 l_a0 (fun w1 => ss_gd (fun h_w1 l_w1 => ?_))
  refine ss_alen (pc := 4) (v := (Int32.ofNat (ss_N s.2.2.2.1 w1))) (sv_d k_JS_length 2 rfl) h_w1 (by decide) (by decide) l_w1 rfl ?_
  refine sv_aload_n (pc := 5) 0 (sv_d k_JS_length 3 rfl) rfl rfl ?_
  refine sv_callVS (pc := 6) (ψ := (ss_pi s)) (As := []) (rest := [.int (Int32.ofNat (ss_N s.2.2.2.1 w1))]) (c := a0) (sv_d k_JS_length 4 rfl) g_JS_coder w667 in_JS_coder se_JS_coder rfl h_a0 l_a0 rfl (Nat.le_of_ble_eq_true rfl) (V_JS_coder E (d + 0) a0 s h_a0 l_a0) (Nat.le_of_ble_eq_true rfl) rfl (fun r2 => ?_)
  show sv_V E _ _ _ 9 _ [.int r2, .int (Int32.ofNat (ss_N s.2.2.2.1 w1))] (ss_e s) _
  refine sv_ishr (pc := 9) (sv_d k_JS_length 5 rfl) ?_
  exact sv_ret (pc := 10) (sv_d k_JS_length 6 rfl) ⟨_, rfl, rfl⟩ rfl
/-! JS_isLatin1 -/
abbrev m_JS_isLatin1 : sv_M := (yJ0_isLatin1_aae02, cJ0_isLatin1_aae02, 1, (some .boolean))
def t_JS_isLatin1 : List (Nat × Instr × Nat) := [(0, .getstatic 38, 3), (3, .ifCond .eq 14, 3), (6, .aload_n 0, 1), (7, .getfield 15, 3), (10, .ifCond .ne 7, 3), (13, .iconst 1, 1), (14, .goto 4, 3), (17, .iconst 0, 1), (18, .ireturn, 1)]
theorem k_JS_isLatin1 : sv_tk m_JS_isLatin1.2.1 t_JS_isLatin1 := by decide +kernel
theorem g_JS_isLatin1 : sv_G m_JS_isLatin1 0 := ⟨by decide +kernel, sv_in 680 (by decide +kernel) rfl, sv_in 105 (by decide +kernel) rfl, ⟨by decide, by decide⟩, by decide +kernel, by decide⟩
theorem in_JS_isLatin1 : Cond.instanceMethod m_JS_isLatin1.1 ∈ sv_T := sv_in 678 (by decide +kernel) rfl
theorem se_JS_isLatin1 : Cond.selects m_JS_isLatin1.1.cls m_JS_isLatin1.1 m_JS_isLatin1.1 ∈ sv_T := sv_in 679 (by decide +kernel) rfl
def F_JS_isLatin1 (a0 : Nat) (s : sv_S) : Option (Int32) :=
  if (1 : Int32) = 0 then
    some (0 : Int32)
  else
  if (s.1 a0 1) = 0 then
    some (1 : Int32)
  else
  some (0 : Int32)
theorem V_JS_isLatin1 (E : sv_E) (d : Nat) (a0 : Nat) (s : sv_S) (h_a0 : ss_K a0 = 30) (l_a0 : a0 < 243 + s.2.2.2.2.1) : sv_V E m_JS_isLatin1 (d + 0) (ss_pi s) 0 (lv_args 0 [sv_r E a0]) [] (ss_e s) (F_JS_isLatin1 a0 s) := by
  show sv_V E m_JS_isLatin1 (d + 0) (ss_pi s) 0 [(0, sv_r E a0)] [] (ss_e s) _
  unfold F_JS_isLatin1
  refine sv_gets (pc := 0) (ss_st3 E) (sv_d k_JS_isLatin1 0 rfl) w671 ?_
  refine sv_if_eq (pc := 3) (tgt := 17) (sv_d k_JS_isLatin1 1 rfl) (by decide) ?_ ?_
  · refine sv_iconst (pc := 17) (v := (0 : Int32)) (sv_d k_JS_isLatin1 7 rfl) (by decide) ?_
    exact sv_ret (pc := 18) (sv_d k_JS_isLatin1 8 rfl) ⟨_, rfl, rfl⟩ rfl
  · refine sv_aload_n (pc := 6) 0 (sv_d k_JS_isLatin1 2 rfl) rfl rfl ?_
    refine ss_getC (pc := 7) (sv_d k_JS_isLatin1 3 rfl) w1945 h_a0 l_a0 ?_
    refine sv_if_ne (pc := 10) (tgt := 17) (sv_d k_JS_isLatin1 4 rfl) (by decide) ?_ ?_
    · refine sv_iconst (pc := 17) (v := (0 : Int32)) (sv_d k_JS_isLatin1 7 rfl) (by decide) ?_
      exact sv_ret (pc := 18) (sv_d k_JS_isLatin1 8 rfl) ⟨_, rfl, rfl⟩ rfl
    · refine sv_iconst (pc := 13) (v := (1 : Int32)) (sv_d k_JS_isLatin1 5 rfl) (by decide) ?_
      refine sv_goto (pc := 14) (tgt := 18) (sv_d k_JS_isLatin1 6 rfl) (by decide) ?_
      exact sv_ret (pc := 18) (sv_d k_JS_isLatin1 8 rfl) ⟨_, rfl, rfl⟩ rfl
/-! JL_charAt -/
abbrev m_JL_charAt : sv_M := (yJ1_charAt_3b067, cJ1_charAt_3b067, 2, (some .char))
def t_JL_charAt : List (Nat × Instr × Nat) := [(0, .iload_n 1, 1), (1, .aload_n 0, 1), (2, .arraylength, 1), (3, .invokestatic 9, 3), (6, .aload_n 0, 1), (7, .iload_n 1, 1), (8, .baload, 1), (9, .sipush 255, 3), (12, .iand, 1), (13, .i2c, 1), (14, .ireturn, 1)]
theorem k_JL_charAt : sv_tk m_JL_charAt.2.1 t_JL_charAt := by decide +kernel
theorem g_JL_charAt : sv_G m_JL_charAt 2 := ⟨by decide +kernel, sv_in 683 (by decide +kernel) rfl, sv_in 106 (by decide +kernel) rfl, ⟨by decide, by decide⟩, by decide +kernel, by decide⟩
theorem st_JL_charAt : Cond.static m_JL_charAt.1 ∈ sv_T := sv_in 682 (by decide +kernel) rfl
def F_JL_charAt (a0 : Nat) (x1 : Int32) (s : sv_S) : Option (Int32 × sv_S) :=
  (F_JS_checkIndex x1 (Int32.ofNat (ss_N s.2.2.2.1 a0)) s).bind fun r1 =>
  if sv_ib x1 (ss_N r1.2.2.2.1 a0) = true then
    if sv_ch ((((r1.1 a0 x1.toNatClampNeg) &&& (255 : Int32)).toUInt32 % 65536).toInt32) = true then some ((((r1.1 a0 x1.toNatClampNeg) &&& (255 : Int32)).toUInt32 % 65536).toInt32, r1) else none
  else none
theorem V_JL_charAt (E : sv_E) (d : Nat) (a0 : Nat) (x1 : Int32) (s : sv_S) (h_a0 : ss_K a0 = 22) (l_a0 : a0 < 243 + s.2.2.2.2.1) : sv_V E m_JL_charAt (d + 2) ss_i 0 (lv_args 0 [sv_r E a0, .int x1]) [] (ss_e s) (F_JL_charAt a0 x1 s) := by
  show sv_V E m_JL_charAt (d + 2) ss_i 0 [(0, sv_r E a0), (1, .int x1)] [] (ss_e s) _
  unfold F_JL_charAt
  refine sv_iload_n (pc := 0) 1 (sv_d k_JL_charAt 0 rfl) rfl rfl ?_
  refine sv_aload_n (pc := 1) 0 (sv_d k_JL_charAt 1 rfl) rfl rfl ?_
  refine ss_alen (pc := 2) (v := (Int32.ofNat (ss_N s.2.2.2.1 a0))) (sv_d k_JL_charAt 2 rfl) h_a0 (by decide) (by decide) l_a0 rfl ?_
  refine sv_callS (pc := 3) (ψ := ss_v) (As := [.int x1, .int (Int32.ofNat (ss_N s.2.2.2.1 a0))]) (rest := []) (sv_d k_JL_charAt 3 rfl) g_JS_checkIndex w684 st_JS_checkIndex rfl (Nat.le_of_ble_eq_true rfl) (V_JS_checkIndex E (d + 0) x1 (Int32.ofNat (ss_N s.2.2.2.1 a0)) s) (Nat.le_of_ble_eq_true rfl) rfl (fun r1 => ?_)
  show sv_V E _ _ _ 6 _ [] (ss_e r1) _
  refine sv_aload_n (pc := 6) 0 (sv_d k_JL_charAt 4 rfl) rfl rfl ?_
  refine sv_iload_n (pc := 7) 1 (sv_d k_JL_charAt 5 rfl) rfl rfl ?_
  refine ss_bald (pc := 8) (n := (ss_N r1.2.2.2.1 a0)) (sv_d k_JL_charAt 6 rfl) h_a0 (ss_lx h_a0) rfl ?_
  refine sv_sipush (pc := 9) (v := (255 : Int32)) (sv_d k_JL_charAt 7 rfl) (by decide) ?_
  refine sv_iand (pc := 12) (sv_d k_JL_charAt 8 rfl) ?_
  refine sv_i2c (pc := 13) (sv_d k_JL_charAt 9 rfl) ?_
  exact ss_grd (fun bb2 => sv_ret (pc := 14) (sv_d k_JL_charAt 10 rfl) ⟨_, rfl, sv_chn bb2⟩ rfl)
/-! JS_charAt -/
abbrev m_JS_charAt : sv_M := (yJ0_charAt_5068e, cJ0_charAt_5068e, 2, (some .char))
def t_JS_charAt : List (Nat × Instr × Nat) := [(0, .aload_n 0, 1), (1, .invokevirtual 492, 3), (4, .ifCond .eq 12, 3), (7, .aload_n 0, 1), (8, .getfield 9, 3), (11, .iload_n 1, 1), (12, .invokestatic 495, 3), (15, .ireturn, 1), (16, .aload_n 0, 1), (17, .getfield 9, 3), (20, .iload_n 1, 1), (21, .invokestatic 498, 3), (24, .ireturn, 1)]
theorem k_JS_charAt : sv_tk m_JS_charAt.2.1 t_JS_charAt := by decide +kernel
theorem g_JS_charAt : sv_G m_JS_charAt 1 := ⟨by decide +kernel, sv_in 676 (by decide +kernel) rfl, sv_in 105 (by decide +kernel) rfl, ⟨by decide, by decide⟩, by decide +kernel, by decide⟩
theorem in_JS_charAt : Cond.instanceMethod m_JS_charAt.1 ∈ sv_T := sv_in 674 (by decide +kernel) rfl
theorem se_JS_charAt : Cond.selects m_JS_charAt.1.cls m_JS_charAt.1 m_JS_charAt.1 ∈ sv_T := sv_in 675 (by decide +kernel) rfl
def F_JS_charAt (a0 : Nat) (x1 : Int32) (s : sv_S) : Option (Int32 × sv_S) :=
  (F_JS_isLatin1 a0 s).bind fun r1 =>
  if r1 = 0 then
    (ss_LR a0 0).bind fun w2 => if ss_ok s w2 22 = true then
      none
    else none
  else
  (ss_LR a0 0).bind fun w3 => if ss_ok s w3 22 = true then
    (F_JL_charAt w3 x1 s).bind fun r4 =>
    if sv_ch r4.1 = true then some (r4.1, r4.2) else none
  else none
theorem V_JS_charAt (E : sv_E) (d : Nat) (a0 : Nat) (x1 : Int32) (s : sv_S) (h_a0 : ss_K a0 = 30) (l_a0 : a0 < 243 + s.2.2.2.2.1) : sv_V E m_JS_charAt (d + 4) ss_i 0 (lv_args 0 [sv_r E a0, .int x1]) [] (ss_e s) (F_JS_charAt a0 x1 s) := by
  show sv_V E m_JS_charAt (d + 4) ss_i 0 [(0, sv_r E a0), (1, .int x1)] [] (ss_e s) _
  unfold F_JS_charAt
  refine sv_aload_n (pc := 0) 0 (sv_d k_JS_charAt 0 rfl) rfl rfl ?_
  refine sv_callVS (pc := 1) (ψ := (ss_pi s)) (As := []) (rest := []) (c := a0) (sv_d k_JS_charAt 1 rfl) g_JS_isLatin1 w677 in_JS_isLatin1 se_JS_isLatin1 rfl h_a0 l_a0 rfl (Nat.le_of_ble_eq_true rfl) (V_JS_isLatin1 E (d + 3) a0 s h_a0 l_a0) (Nat.le_of_ble_eq_true rfl) rfl (fun r1 => ?_)
  show sv_V E _ _ _ 4 _ [.int r1] (ss_e s) _
  refine sv_if_eq (pc := 4) (tgt := 16) (sv_d k_JS_charAt 2 rfl) (by decide) ?_ ?_
  · refine sv_aload_n (pc := 16) 0 (sv_d k_JS_charAt 8 rfl) rfl rfl ?_
    refine ss_getVv (pc := 17) (sv_d k_JS_charAt 9 rfl) w1944 h_a0 l_a0 (fun w2 => ss_gd (fun h_w2 l_w2 => ?_))
    refine sv_iload_n (pc := 20) 1 (sv_d k_JS_charAt 10 rfl) rfl rfl ?_
    exact sv_none
  · refine sv_aload_n (pc := 7) 0 (sv_d k_JS_charAt 3 rfl) rfl rfl ?_
    refine ss_getVv (pc := 8) (sv_d k_JS_charAt 4 rfl) w1944 h_a0 l_a0 (fun w3 => ss_gd (fun h_w3 l_w3 => ?_))
    refine sv_iload_n (pc := 11) 1 (sv_d k_JS_charAt 5 rfl) rfl rfl ?_
    refine sv_callS (pc := 12) (ψ := ss_i) (As := [sv_r E w3, .int x1]) (rest := []) (sv_d k_JS_charAt 6 rfl) g_JL_charAt w681 st_JL_charAt rfl (Nat.le_of_ble_eq_true rfl) (V_JL_charAt E (d + 1) w3 x1 s h_w3 l_w3) (Nat.le_of_ble_eq_true rfl) rfl (fun r4 => ?_)
    show sv_V E _ _ _ 15 _ [.int r4.1] (ss_e r4.2) _
    exact ss_grd (fun bb5 => sv_ret (pc := 15) (sv_d k_JS_charAt 7 rfl) ⟨_, rfl, sv_chn bb5⟩ rfl)
/-! Lt_spelled -/
abbrev m_Lt_spelled : sv_M := (yX3_spelled, cX3_spelled, 1, (some (.object "java/lang/String")))
def t_Lt_spelled : List (Nat × Instr × Nat) := [(0, .iload_n 0, 1), (1, .tableswitch (85) (0) (9) #[55, 58, 61, 64, 67, 70, 73, 76, 79, 82], 55), (56, .ldc 82, 2), (58, .areturn, 1), (59, .ldc 84, 2), (61, .areturn, 1), (62, .ldc 86, 2), (64, .areturn, 1), (65, .ldc 88, 2), (67, .areturn, 1), (68, .ldc 90, 2), (70, .areturn, 1), (71, .ldc 92, 2), (73, .areturn, 1), (74, .ldc 94, 2), (76, .areturn, 1), (77, .ldc 96, 2), (79, .areturn, 1), (80, .ldc 98, 2), (82, .areturn, 1), (83, .ldc 100, 2), (85, .areturn, 1), (86, .ldc 102, 2), (88, .areturn, 1)]
theorem k_Lt_spelled : sv_tk m_Lt_spelled.2.1 t_Lt_spelled := by decide +kernel
theorem g_Lt_spelled : sv_G m_Lt_spelled 1 := ⟨by decide +kernel, sv_in 647 (by decide +kernel) rfl, sv_in 93 (by decide +kernel) rfl, ⟨by decide, by decide⟩, by decide +kernel, by decide⟩
theorem st_Lt_spelled : Cond.static m_Lt_spelled.1 ∈ sv_T := sv_in 646 (by decide +kernel) rfl
def F_Lt_spelled (x0 : Int32) (s : sv_S) : Option (Nat) :=
  if x0 = (0 : Int32) then
    some 3
  else if x0 = (1 : Int32) then
    some 4
  else if x0 = (2 : Int32) then
    some 5
  else if x0 = (3 : Int32) then
    some 6
  else if x0 = (4 : Int32) then
    some 7
  else if x0 = (5 : Int32) then
    some 8
  else if x0 = (6 : Int32) then
    some 9
  else if x0 = (7 : Int32) then
    some 10
  else if x0 = (8 : Int32) then
    some 11
  else if x0 = (9 : Int32) then
    some 12
  else 
  some 13
theorem V_Lt_spelled (E : sv_E) (d : Nat) (x0 : Int32) (s : sv_S) : sv_V E m_Lt_spelled (d + 0) (ss_pq E s) 0 (lv_args 0 [.int x0]) [] (ss_e s) (F_Lt_spelled x0 s) := by
  show sv_V E m_Lt_spelled (d + 0) (ss_pq E s) 0 [(0, .int x0)] [] (ss_e s) _
  unfold F_Lt_spelled
  refine sv_iload_n (pc := 0) 0 (sv_d k_Lt_spelled 0 rfl) rfl rfl ?_
  refine ss_dec (fun hh1 => ?_) (fun hh1 => ?_)
  · refine sv_tab (pc := 1) (tgt := 56) (sv_d k_Lt_spelled 1 rfl) (0 : Int32) hh1 (by decide) (by decide) rfl (by decide) ?_
    refine sv_ldcS (pc := 56) 0 (by decide) rfl (sv_d k_Lt_spelled 2 rfl) rfl ?_
    exact sv_ret (pc := 58) (sv_d k_Lt_spelled 3 rfl) ⟨_, rfl, Or.inr ⟨_, rfl⟩⟩ rfl
  · refine ss_dec (fun hh2 => ?_) (fun hh2 => ?_)
    · refine sv_tab (pc := 1) (tgt := 59) (sv_d k_Lt_spelled 1 rfl) (1 : Int32) hh2 (by decide) (by decide) rfl (by decide) ?_
      refine sv_ldcS (pc := 59) 1 (by decide) rfl (sv_d k_Lt_spelled 4 rfl) rfl ?_
      exact sv_ret (pc := 61) (sv_d k_Lt_spelled 5 rfl) ⟨_, rfl, Or.inr ⟨_, rfl⟩⟩ rfl
    · refine ss_dec (fun hh3 => ?_) (fun hh3 => ?_)
      · refine sv_tab (pc := 1) (tgt := 62) (sv_d k_Lt_spelled 1 rfl) (2 : Int32) hh3 (by decide) (by decide) rfl (by decide) ?_
        refine sv_ldcS (pc := 62) 2 (by decide) rfl (sv_d k_Lt_spelled 6 rfl) rfl ?_
        exact sv_ret (pc := 64) (sv_d k_Lt_spelled 7 rfl) ⟨_, rfl, Or.inr ⟨_, rfl⟩⟩ rfl
      · refine ss_dec (fun hh4 => ?_) (fun hh4 => ?_)
        · refine sv_tab (pc := 1) (tgt := 65) (sv_d k_Lt_spelled 1 rfl) (3 : Int32) hh4 (by decide) (by decide) rfl (by decide) ?_
          refine sv_ldcS (pc := 65) 3 (by decide) rfl (sv_d k_Lt_spelled 8 rfl) rfl ?_
          exact sv_ret (pc := 67) (sv_d k_Lt_spelled 9 rfl) ⟨_, rfl, Or.inr ⟨_, rfl⟩⟩ rfl
        · refine ss_dec (fun hh5 => ?_) (fun hh5 => ?_)
          · refine sv_tab (pc := 1) (tgt := 68) (sv_d k_Lt_spelled 1 rfl) (4 : Int32) hh5 (by decide) (by decide) rfl (by decide) ?_
            refine sv_ldcS (pc := 68) 4 (by decide) rfl (sv_d k_Lt_spelled 10 rfl) rfl ?_
            exact sv_ret (pc := 70) (sv_d k_Lt_spelled 11 rfl) ⟨_, rfl, Or.inr ⟨_, rfl⟩⟩ rfl
          · refine ss_dec (fun hh6 => ?_) (fun hh6 => ?_)
            · refine sv_tab (pc := 1) (tgt := 71) (sv_d k_Lt_spelled 1 rfl) (5 : Int32) hh6 (by decide) (by decide) rfl (by decide) ?_
              refine sv_ldcS (pc := 71) 5 (by decide) rfl (sv_d k_Lt_spelled 12 rfl) rfl ?_
              exact sv_ret (pc := 73) (sv_d k_Lt_spelled 13 rfl) ⟨_, rfl, Or.inr ⟨_, rfl⟩⟩ rfl
            · refine ss_dec (fun hh7 => ?_) (fun hh7 => ?_)
              · refine sv_tab (pc := 1) (tgt := 74) (sv_d k_Lt_spelled 1 rfl) (6 : Int32) hh7 (by decide) (by decide) rfl (by decide) ?_
                refine sv_ldcS (pc := 74) 6 (by decide) rfl (sv_d k_Lt_spelled 14 rfl) rfl ?_
                exact sv_ret (pc := 76) (sv_d k_Lt_spelled 15 rfl) ⟨_, rfl, Or.inr ⟨_, rfl⟩⟩ rfl
              · refine ss_dec (fun hh8 => ?_) (fun hh8 => ?_)
                · refine sv_tab (pc := 1) (tgt := 77) (sv_d k_Lt_spelled 1 rfl) (7 : Int32) hh8 (by decide) (by decide) rfl (by decide) ?_
                  refine sv_ldcS (pc := 77) 7 (by decide) rfl (sv_d k_Lt_spelled 16 rfl) rfl ?_
                  exact sv_ret (pc := 79) (sv_d k_Lt_spelled 17 rfl) ⟨_, rfl, Or.inr ⟨_, rfl⟩⟩ rfl
                · refine ss_dec (fun hh9 => ?_) (fun hh9 => ?_)
                  · refine sv_tab (pc := 1) (tgt := 80) (sv_d k_Lt_spelled 1 rfl) (8 : Int32) hh9 (by decide) (by decide) rfl (by decide) ?_
                    refine sv_ldcS (pc := 80) 8 (by decide) rfl (sv_d k_Lt_spelled 18 rfl) rfl ?_
                    exact sv_ret (pc := 82) (sv_d k_Lt_spelled 19 rfl) ⟨_, rfl, Or.inr ⟨_, rfl⟩⟩ rfl
                  · refine ss_dec (fun hh10 => ?_) (fun hh10 => ?_)
                    · refine sv_tab (pc := 1) (tgt := 83) (sv_d k_Lt_spelled 1 rfl) (9 : Int32) hh10 (by decide) (by decide) rfl (by decide) ?_
                      refine sv_ldcS (pc := 83) 9 (by decide) rfl (sv_d k_Lt_spelled 20 rfl) rfl ?_
                      exact sv_ret (pc := 85) (sv_d k_Lt_spelled 21 rfl) ⟨_, rfl, Or.inr ⟨_, rfl⟩⟩ rfl
                    · refine sv_tabD (pc := 1) (tgt := 86) (sv_d k_Lt_spelled 1 rfl) (by rcases Int.lt_or_le (Int32.toInt x0) (0) with q | q; exact Or.inl q; have q := (sv_nlt (sv_nlt (sv_nlt (sv_nlt (sv_nlt (sv_nlt (sv_nlt (sv_nlt (sv_nlt (sv_nlt q (lv_neT hh1 rfl)) (lv_neT hh2 rfl)) (lv_neT hh3 rfl)) (lv_neT hh4 rfl)) (lv_neT hh5 rfl)) (lv_neT hh6 rfl)) (lv_neT hh7 rfl)) (lv_neT hh8 rfl)) (lv_neT hh9 rfl)) (lv_neT hh10 rfl)); exact Or.inr (by omega)) (by decide) ?_
                      refine sv_ldcS (pc := 86) 10 (by decide) rfl (sv_d k_Lt_spelled 22 rfl) rfl ?_
                      exact sv_ret (pc := 88) (sv_d k_Lt_spelled 23 rfl) ⟨_, rfl, Or.inr ⟨_, rfl⟩⟩ rfl
/-! Lt_likeness -/
abbrev m_Lt_likeness : sv_M := (yX3_likeness, cX3_likeness, 3, (some .int))
def t_Lt_likeness : List (Nat × Instr × Nat) := [(0, .iconst 0, 1), (1, .istore_n 2, 1), (2, .iload_n 2, 1), (3, .aload_n 1, 1), (4, .invokevirtual 112, 3), (7, .if_icmp .ge 43, 3), (10, .aload_n 0, 1), (11, .getfield 51, 3), (14, .iload_n 2, 1), (15, .iadd, 1), (16, .aload_n 0, 1), (17, .getfield 22, 3), (20, .if_icmp .ge 22, 3), (23, .aload_n 0, 1), (24, .getfield 11, 3), (27, .aload_n 0, 1), (28, .getfield 51, 3), (31, .iload_n 2, 1), (32, .iadd, 1), (33, .baload, 1), (34, .aload_n 1, 1), (35, .iload_n 2, 1), (36, .invokevirtual 122, 3), (39, .if_icmp .eq 5, 3), (42, .iload_n 2, 1), (43, .ireturn, 1), (44, .iinc 2 1, 3), (47, .goto (-45), 3), (50, .aload_n 1, 1), (51, .invokevirtual 112, 3), (54, .ireturn, 1)]
theorem k_Lt_likeness : sv_tk m_Lt_likeness.2.1 t_Lt_likeness := by decide +kernel
theorem g_Lt_likeness : sv_G m_Lt_likeness 1 := ⟨by decide +kernel, sv_in 662 (by decide +kernel) rfl, sv_in 93 (by decide +kernel) rfl, ⟨by decide, by decide⟩, by decide +kernel, by decide⟩
theorem in_Lt_likeness : Cond.instanceMethod m_Lt_likeness.1 ∈ sv_T := sv_in 661 (by decide +kernel) rfl
theorem se_Lt_likeness : Cond.selects m_Lt_likeness.1.cls m_Lt_likeness.1 m_Lt_likeness.1 ∈ sv_T := sv_in 4 (by decide +kernel) rfl
def F_Lt_likeness_b2 : Nat → Nat → Int32 → sv_S → Option (Int32 × sv_S)
  | 0 => fun _ _ _ => none
  | n + 1 => fun a1 x2 s =>
    (F_JS_length a1 s).bind fun r1 =>
    if r1 ≤ x2 then
      (F_JS_length a1 s).bind fun r2 =>
      some (r2, s)
    else
    if (s.1 77 3) ≤ ((s.1 77 4) + x2) then
      some (x2, s)
    else
    if sv_ib ((s.1 77 4) + x2) 140 = true then
      (F_JS_charAt a1 x2 s).bind fun r3 =>
      if (s.1 78 ((s.1 77 4) + x2).toNatClampNeg) = r3.1 then
        ss_let (x2 + (1 : Int32)) fun v4 =>
        F_Lt_likeness_b2  n a1 v4 r3.2
      else
      some (x2, r3.2)
    else none
theorem V_Lt_likeness_b2 (E : sv_E) (d : Nat) : ∀ (n : Nat) (a1 : Nat) (x2 : Int32) (s : sv_S) (h_a1 : ss_K a1 = 30) (l_a1 : a1 < 243 + s.2.2.2.2.1), sv_V E m_Lt_likeness (d + 5) ss_i 2 [(0, sv_r E 77), (1, sv_r E a1), (2, .int x2)] [] (ss_e s) (F_Lt_likeness_b2 n a1 x2 s) := by
  intro n
  induction n with
  | zero => intro a1 x2 s h_a1 l_a1; exact sv_none
  | succ n ih =>
    intro a1 x2 s h_a1 l_a1
    unfold F_Lt_likeness_b2
    refine sv_iload_n (pc := 2) 2 (sv_d k_Lt_likeness 2 rfl) rfl rfl ?_
    refine sv_aload_n (pc := 3) 1 (sv_d k_Lt_likeness 3 rfl) rfl rfl ?_
    refine sv_callVS (pc := 4) (ψ := (ss_pi s)) (As := []) (rest := [.int x2]) (c := a1) (sv_d k_Lt_likeness 4 rfl) g_JS_length w663 in_JS_length se_JS_length rfl h_a1 l_a1 rfl (Nat.le_of_ble_eq_true rfl) (V_JS_length E (d + 3) a1 s h_a1 l_a1) (Nat.le_of_ble_eq_true rfl) rfl (fun r1 => ?_)
    show sv_V E _ _ _ 7 _ [.int r1, .int x2] (ss_e s) _
    refine sv_icmp_ge (pc := 7) (tgt := 50) (sv_d k_Lt_likeness 5 rfl) (by decide) ?_ ?_
    · refine sv_aload_n (pc := 50) 1 (sv_d k_Lt_likeness 28 rfl) rfl rfl ?_
      refine sv_callVS (pc := 51) (ψ := (ss_pi s)) (As := []) (rest := []) (c := a1) (sv_d k_Lt_likeness 29 rfl) g_JS_length w663 in_JS_length se_JS_length rfl h_a1 l_a1 rfl (Nat.le_of_ble_eq_true rfl) (V_JS_length E (d + 3) a1 s h_a1 l_a1) (Nat.le_of_ble_eq_true rfl) rfl (fun r2 => ?_)
      show sv_V E _ _ _ 54 _ [.int r2] (ss_e s) _
      exact sv_ret (pc := 54) (sv_d k_Lt_likeness 30 rfl) ⟨_, rfl, rfl⟩ rfl
    · refine sv_aload_n (pc := 10) 0 (sv_d k_Lt_likeness 6 rfl) rfl rfl ?_
      refine sv_getf (pc := 11) 4 (sv_d k_Lt_likeness 7 rfl) cf3 (by decide) w161 kd77 (ss_lt (by decide)) rfl ?_
      refine sv_iload_n (pc := 14) 2 (sv_d k_Lt_likeness 8 rfl) rfl rfl ?_
      refine sv_iadd (pc := 15) (sv_d k_Lt_likeness 9 rfl) ?_
      refine sv_aload_n (pc := 16) 0 (sv_d k_Lt_likeness 10 rfl) rfl rfl ?_
      refine sv_getf (pc := 17) 3 (sv_d k_Lt_likeness 11 rfl) cf3 (by decide) w159 kd77 (ss_lt (by decide)) rfl ?_
      refine sv_icmp_ge (pc := 20) (tgt := 42) (sv_d k_Lt_likeness 12 rfl) (by decide) ?_ ?_
      · refine sv_iload_n (pc := 42) 2 (sv_d k_Lt_likeness 24 rfl) rfl rfl ?_
        exact sv_ret (pc := 43) (sv_d k_Lt_likeness 25 rfl) ⟨_, rfl, rfl⟩ rfl
      · refine sv_aload_n (pc := 23) 0 (sv_d k_Lt_likeness 13 rfl) rfl rfl ?_
        refine sv_getf (pc := 24) 0 (sv_d k_Lt_likeness 14 rfl) cf3 (by decide) w155 kd77 (ss_lt (by decide)) (lr_77_0 E _) ?_
        refine sv_aload_n (pc := 27) 0 (sv_d k_Lt_likeness 15 rfl) rfl rfl ?_
        refine sv_getf (pc := 28) 4 (sv_d k_Lt_likeness 16 rfl) cf3 (by decide) w161 kd77 (ss_lt (by decide)) rfl ?_
        refine sv_iload_n (pc := 31) 2 (sv_d k_Lt_likeness 17 rfl) rfl rfl ?_
        refine sv_iadd (pc := 32) (sv_d k_Lt_likeness 18 rfl) ?_
        refine ss_bald (pc := 33) (n := 140) (sv_d k_Lt_likeness 19 rfl) kd78 (ss_lt (by decide)) rfl ?_
        refine sv_aload_n (pc := 34) 1 (sv_d k_Lt_likeness 20 rfl) rfl rfl ?_
        refine sv_iload_n (pc := 35) 2 (sv_d k_Lt_likeness 21 rfl) rfl rfl ?_
        refine sv_callVS (pc := 36) (ψ := ss_i) (As := [.int x2]) (rest := [.int (s.1 78 ((s.1 77 4) + x2).toNatClampNeg)]) (c := a1) (sv_d k_Lt_likeness 22 rfl) g_JS_charAt w673 in_JS_charAt se_JS_charAt rfl h_a1 l_a1 rfl (Nat.le_of_ble_eq_true rfl) (V_JS_charAt E (d + 0) a1 x2 s h_a1 l_a1) (Nat.le_of_ble_eq_true rfl) rfl (fun r3 => ?_)
        show sv_V E _ _ _ 39 _ [.int r3.1, .int (s.1 78 ((s.1 77 4) + x2).toNatClampNeg)] (ss_e r3.2) _
        refine sv_icmp_eq (pc := 39) (tgt := 44) (sv_d k_Lt_likeness 23 rfl) (by decide) ?_ ?_
        · refine ss_letr (fun v4 e_v4 => ?_)
          refine sv_iinc (pc := 44) (v := v4) (lv' := [(2, .int v4), (0, sv_r E 77), (1, sv_r E a1)]) (sv_d k_Lt_likeness 26 rfl) (n := 2) rfl (by rw [e_v4]; rfl) (by decide) rfl ?_
          refine sv_goto (pc := 47) (tgt := 2) (sv_d k_Lt_likeness 27 rfl) (by decide) ?_
          exact sv_loc [1, 2, 0] rfl (ih a1 v4 r3.2 h_a1 (ss_lx h_a1))
        · refine sv_iload_n (pc := 42) 2 (sv_d k_Lt_likeness 24 rfl) rfl rfl ?_
          exact sv_ret (pc := 43) (sv_d k_Lt_likeness 25 rfl) ⟨_, rfl, rfl⟩ rfl
def F_Lt_likeness (a1 : Nat) (s : sv_S) : Option (Int32 × sv_S) :=
  F_Lt_likeness_b2 ss_F a1 (0 : Int32) s
theorem V_Lt_likeness (E : sv_E) (d : Nat) (a1 : Nat) (s : sv_S) (h_a1 : ss_K a1 = 30) (l_a1 : a1 < 243 + s.2.2.2.2.1) : sv_V E m_Lt_likeness (d + 5) ss_i 0 (lv_args 0 [sv_r E 77, sv_r E a1]) [] (ss_e s) (F_Lt_likeness a1 s) := by
  show sv_V E m_Lt_likeness (d + 5) ss_i 0 [(0, sv_r E 77), (1, sv_r E a1)] [] (ss_e s) _
  unfold F_Lt_likeness
  refine sv_iconst (pc := 0) (v := (0 : Int32)) (sv_d k_Lt_likeness 0 rfl) (by decide) ?_
  refine sv_istore_n (pc := 1) (lv' := [(2, .int (0 : Int32)), (0, sv_r E 77), (1, sv_r E a1)]) (sv_d k_Lt_likeness 1 rfl) rfl (by decide) rfl ?_
  exact sv_loc [1, 2, 0] rfl (V_Lt_likeness_b2 E d ss_F a1 (0 : Int32) s h_a1 l_a1)
/-! Lt_word -/
abbrev m_Lt_word : sv_M := (yX3_word, cX3_word, 5, (some .int))
def t_Lt_word : List (Nat × Instr × Nat) := [(0, .aload_n 0, 1), (1, .getfield 51, 3), (4, .istore_n 1, 1), (5, .iconst 0, 1), (6, .istore_n 2, 1), (7, .iload_n 2, 1), (8, .bipush 11, 2), (10, .if_icmp .ge 55, 3), (13, .iload_n 2, 1), (14, .invokestatic 104, 3), (17, .astore_n 3, 1), (18, .aload_n 0, 1), (19, .aload_n 3, 1), (20, .invokevirtual 108, 3), (23, .istore 4, 2), (25, .iload 4, 2), (27, .aload_n 3, 1), (28, .invokevirtual 112, 3), (31, .if_icmp .ne 16, 3), (34, .aload_n 0, 1), (35, .dup, 1), (36, .getfield 51, 3), (39, .iload 4, 2), (41, .iadd, 1), (42, .putfield 51, 3), (45, .iload_n 2, 1), (46, .ireturn, 1), (47, .iload_n 1, 1), (48, .aload_n 0, 1), (49, .getfield 51, 3), (52, .iload 4, 2), (54, .iadd, 1), (55, .invokestatic 116, 3), (58, .istore_n 1, 1), (59, .iinc 2 1, 3), (62, .goto (-55), 3), (65, .aload_n 0, 1), (66, .iload_n 1, 1), (67, .putfield 51, 3), (70, .iconst (-1), 1), (71, .ireturn, 1)]
theorem k_Lt_word : sv_tk m_Lt_word.2.1 t_Lt_word := by decide +kernel
theorem g_Lt_word : sv_G m_Lt_word 0 := ⟨by decide +kernel, sv_in 644 (by decide +kernel) rfl, sv_in 93 (by decide +kernel) rfl, ⟨by decide, by decide⟩, by decide +kernel, by decide⟩
theorem in_Lt_word : Cond.instanceMethod m_Lt_word.1 ∈ sv_T := sv_in 643 (by decide +kernel) rfl
theorem se_Lt_word : Cond.selects m_Lt_word.1.cls m_Lt_word.1 m_Lt_word.1 ∈ sv_T := sv_in 3 (by decide +kernel) rfl
def F_Lt_word_b7 : Nat → Int32 → Int32 → sv_S → Option (Int32 × sv_S)
  | 0 => fun _ _ _ => none
  | n + 1 => fun x1 x2 s =>
    if (11 : Int32) ≤ x2 then
      ss_let (ss_setI s 77 4 x1) fun s2 =>
      some ((-1 : Int32), s2)
    else
    (F_Lt_spelled x2 s).bind fun r3 =>
    if ss_ok s r3 30 = true then
      (F_Lt_likeness r3 s).bind fun r5 =>
      (F_JS_length r3 r5.2).bind fun r6 =>
      if r5.1 = r6 then
        ss_let (ss_setI r5.2 77 4 ((r5.2.1 77 4) + r5.1)) fun s9 =>
        some (x2, s9)
      else
      (F_JM_max x1 ((r5.2.1 77 4) + r5.1) r5.2).bind fun r7 =>
      ss_let (x2 + (1 : Int32)) fun v8 =>
      F_Lt_word_b7  n r7 v8 r5.2
    else none
theorem V_Lt_word_b7 (E : sv_E) (d : Nat) : ∀ (n : Nat) (x1 : Int32) (x2 : Int32) (s : sv_S), sv_V E m_Lt_word (d + 6) ss_i 7 [(0, sv_r E 77), (1, .int x1), (2, .int x2)] [] (ss_e s) (F_Lt_word_b7 n x1 x2 s) := by
  intro n
  induction n with
  | zero => intro x1 x2 s; exact sv_none
  | succ n ih =>
    intro x1 x2 s
    unfold F_Lt_word_b7
    refine sv_iload_n (pc := 7) 2 (sv_d k_Lt_word 5 rfl) rfl rfl ?_
    refine sv_bipush (pc := 8) (v := (11 : Int32)) (sv_d k_Lt_word 6 rfl) (by decide) ?_
    refine sv_icmp_ge (pc := 10) (tgt := 65) (sv_d k_Lt_word 7 rfl) (by decide) ?_ ?_
    · refine sv_aload_n (pc := 65) 0 (sv_d k_Lt_word 36 rfl) rfl rfl ?_
      refine sv_iload_n (pc := 66) 1 (sv_d k_Lt_word 37 rfl) rfl rfl ?_
      refine ss_putI (pc := 67) 4 (sv_d k_Lt_word 38 rfl) cf3 (by decide) rfl w161 kd77 (ss_lt (by decide)) rfl rfl (fun _ => rfl) (ss_lets (fun s2 e_s2 => ?_))
      refine sv_iconst (pc := 70) (v := (-1 : Int32)) (sv_d k_Lt_word 39 rfl) (by decide) ?_
      exact sv_ret (pc := 71) (sv_d k_Lt_word 40 rfl) ⟨_, rfl, rfl⟩ rfl
    · refine sv_iload_n (pc := 13) 2 (sv_d k_Lt_word 8 rfl) rfl rfl ?_
      refine sv_callS (pc := 14) (ψ := (ss_pq E s)) (As := [.int x2]) (rest := []) (sv_d k_Lt_word 9 rfl) g_Lt_spelled w645 st_Lt_spelled rfl (Nat.le_of_ble_eq_true rfl) (V_Lt_spelled E (d + 5) x2 s) (Nat.le_of_ble_eq_true rfl) rfl (fun r3 => ?_)
      show sv_V E _ _ _ 17 _ [sv_r E r3] (ss_e s) _
      refine ss_gd (fun h_g4 l_g4 => ?_)
      refine sv_astore_n (pc := 17) (lv' := [(3, sv_r E r3), (0, sv_r E 77), (1, .int x1), (2, .int x2)]) (sv_d k_Lt_word 10 rfl) rfl (by decide) rfl ?_
      refine sv_aload_n (pc := 18) 1 (sv_d k_Lt_word 11 rfl) rfl rfl ?_
      refine sv_aload_n (pc := 19) 0 (sv_d k_Lt_word 12 rfl) rfl rfl ?_
      refine sv_callV (pc := 20) (ψ := ss_i) (As := [sv_r E r3]) (rest := []) (c := 77) (sv_d k_Lt_word 13 rfl) g_Lt_likeness w659 in_Lt_likeness se_Lt_likeness cf3 kd77 (ss_lt (by decide)) rfl (Nat.le_of_ble_eq_true rfl) (V_Lt_likeness E (d + 0) r3 s h_g4 l_g4) (Nat.le_of_ble_eq_true rfl) rfl (fun r5 => ?_)
      show sv_V E _ _ _ 23 _ [.int r5.1] (ss_e r5.2) _
      refine sv_istore (pc := 23) (lv' := [(4, .int r5.1), (3, sv_r E r3), (0, sv_r E 77), (1, .int x1), (2, .int x2)]) (sv_d k_Lt_word 14 rfl) (by decide) rfl ?_
      refine sv_iload (pc := 25) 0 (sv_d k_Lt_word 15 rfl) rfl ?_
      refine sv_aload_n (pc := 27) 1 (sv_d k_Lt_word 16 rfl) rfl rfl ?_
      refine sv_callVS (pc := 28) (ψ := (ss_pi r5.2)) (As := []) (rest := [.int r5.1]) (c := r3) (sv_d k_Lt_word 17 rfl) g_JS_length w663 in_JS_length se_JS_length rfl h_g4 (ss_lx h_g4) rfl (Nat.le_of_ble_eq_true rfl) (V_JS_length E (d + 4) r3 r5.2 h_g4 (ss_lx h_g4)) (Nat.le_of_ble_eq_true rfl) rfl (fun r6 => ?_)
      show sv_V E _ _ _ 31 _ [.int r6, .int r5.1] (ss_e r5.2) _
      refine sv_icmp_ne (pc := 31) (tgt := 47) (sv_d k_Lt_word 18 rfl) (by decide) ?_ ?_
      · refine sv_iload_n (pc := 47) 3 (sv_d k_Lt_word 27 rfl) rfl rfl ?_
        refine sv_aload_n (pc := 48) 2 (sv_d k_Lt_word 28 rfl) rfl rfl ?_
        refine sv_getf (pc := 49) 4 (sv_d k_Lt_word 29 rfl) cf3 (by decide) w161 kd77 (ss_lt (by decide)) rfl ?_
        refine sv_iload (pc := 52) 0 (sv_d k_Lt_word 30 rfl) rfl ?_
        refine sv_iadd (pc := 54) (sv_d k_Lt_word 31 rfl) ?_
        refine sv_callS (pc := 55) (ψ := (ss_pi r5.2)) (As := [.int x1, .int ((r5.2.1 77 4) + r5.1)]) (rest := []) (sv_d k_Lt_word 32 rfl) g_JM_max w711 st_JM_max rfl (Nat.le_of_ble_eq_true rfl) (V_JM_max E (d + 5) x1 ((r5.2.1 77 4) + r5.1) r5.2) (Nat.le_of_ble_eq_true rfl) rfl (fun r7 => ?_)
        show sv_V E _ _ _ 58 _ [.int r7] (ss_e r5.2) _
        refine sv_istore_n (pc := 58) (lv' := [(1, .int r7), (4, .int r5.1), (3, sv_r E r3), (0, sv_r E 77), (2, .int x2)]) (sv_d k_Lt_word 33 rfl) rfl (by decide) rfl ?_
        refine ss_letr (fun v8 e_v8 => ?_)
        refine sv_iinc (pc := 59) (v := v8) (lv' := [(2, .int v8), (1, .int r7), (4, .int r5.1), (3, sv_r E r3), (0, sv_r E 77)]) (sv_d k_Lt_word 34 rfl) (n := 4) rfl (by rw [e_v8]; rfl) (by decide) rfl ?_
        refine sv_goto (pc := 62) (tgt := 7) (sv_d k_Lt_word 35 rfl) (by decide) ?_
        exact sv_loc [4, 1, 0] rfl (ih r7 v8 r5.2)
      · refine sv_aload_n (pc := 34) 2 (sv_d k_Lt_word 19 rfl) rfl rfl ?_
        refine sv_dup (pc := 35) (sv_d k_Lt_word 20 rfl) rfl ?_
        refine sv_getf (pc := 36) 4 (sv_d k_Lt_word 21 rfl) cf3 (by decide) w161 kd77 (ss_lt (by decide)) rfl ?_
        refine sv_iload (pc := 39) 0 (sv_d k_Lt_word 22 rfl) rfl ?_
        refine sv_iadd (pc := 41) (sv_d k_Lt_word 23 rfl) ?_
        refine ss_putI (pc := 42) 4 (sv_d k_Lt_word 24 rfl) cf3 (by decide) rfl w161 kd77 (ss_lt (by decide)) rfl rfl (fun _ => rfl) (ss_lets (fun s9 e_s9 => ?_))
        refine sv_iload_n (pc := 45) 4 (sv_d k_Lt_word 25 rfl) rfl rfl ?_
        exact sv_ret (pc := 46) (sv_d k_Lt_word 26 rfl) ⟨_, rfl, rfl⟩ rfl
def F_Lt_word (s : sv_S) : Option (Int32 × sv_S) :=
  ss_let (s.1 77 4) fun v1 =>
  F_Lt_word_b7 ss_F v1 (0 : Int32) s
theorem V_Lt_word (E : sv_E) (d : Nat) (s : sv_S) : sv_V E m_Lt_word (d + 6) ss_i 0 (lv_args 0 [sv_r E 77]) [] (ss_e s) (F_Lt_word s) := by
  show sv_V E m_Lt_word (d + 6) ss_i 0 [(0, sv_r E 77)] [] (ss_e s) _
  unfold F_Lt_word
  refine sv_aload_n (pc := 0) 0 (sv_d k_Lt_word 0 rfl) rfl rfl ?_
  refine sv_getf (pc := 1) 4 (sv_d k_Lt_word 1 rfl) cf3 (by decide) w161 kd77 (ss_lt (by decide)) rfl ?_
  refine ss_top (fun v1 e_v1 => ?_)
  refine sv_istore_n (pc := 4) (lv' := [(1, .int v1), (0, sv_r E 77)]) (sv_d k_Lt_word 2 rfl) rfl (by decide) rfl ?_
  refine sv_iconst (pc := 5) (v := (0 : Int32)) (sv_d k_Lt_word 3 rfl) (by decide) ?_
  refine sv_istore_n (pc := 6) (lv' := [(2, .int (0 : Int32)), (1, .int v1), (0, sv_r E 77)]) (sv_d k_Lt_word 4 rfl) rfl (by decide) rfl ?_
  exact sv_loc [2, 1, 0] rfl (V_Lt_word_b7 E d ss_F v1 (0 : Int32) s)
/-! Lt_hasRoom -/
abbrev m_Lt_hasRoom : sv_M := (yX3_hasRoom, cX3_hasRoom, 2, (some .boolean))
def t_Lt_hasRoom : List (Nat × Instr × Nat) := [(0, .aload_n 0, 1), (1, .getfield 22, 3), (4, .iload_n 1, 1), (5, .iadd, 1), (6, .sipush 140, 3), (9, .if_icmp .gt 7, 3), (12, .iconst 1, 1), (13, .goto 4, 3), (16, .iconst 0, 1), (17, .ireturn, 1)]
theorem k_Lt_hasRoom : sv_tk m_Lt_hasRoom.2.1 t_Lt_hasRoom := by decide +kernel
theorem g_Lt_hasRoom : sv_G m_Lt_hasRoom 1 := ⟨by decide +kernel, sv_in 612 (by decide +kernel) rfl, sv_in 93 (by decide +kernel) rfl, ⟨by decide, by decide⟩, by decide +kernel, by decide⟩
theorem in_Lt_hasRoom : Cond.instanceMethod m_Lt_hasRoom.1 ∈ sv_T := sv_in 610 (by decide +kernel) rfl
theorem se_Lt_hasRoom : Cond.selects m_Lt_hasRoom.1.cls m_Lt_hasRoom.1 m_Lt_hasRoom.1 ∈ sv_T := sv_in 611 (by decide +kernel) rfl
def F_Lt_hasRoom (x1 : Int32) (s : sv_S) : Option (Int32) :=
  if (140 : Int32) < ((s.1 77 3) + x1) then
    some (0 : Int32)
  else
  some (1 : Int32)
theorem V_Lt_hasRoom (E : sv_E) (d : Nat) (x1 : Int32) (s : sv_S) : sv_V E m_Lt_hasRoom (d + 0) (ss_pi s) 0 (lv_args 0 [sv_r E 77, .int x1]) [] (ss_e s) (F_Lt_hasRoom x1 s) := by
  show sv_V E m_Lt_hasRoom (d + 0) (ss_pi s) 0 [(0, sv_r E 77), (1, .int x1)] [] (ss_e s) _
  unfold F_Lt_hasRoom
  refine sv_aload_n (pc := 0) 0 (sv_d k_Lt_hasRoom 0 rfl) rfl rfl ?_
  refine sv_getf (pc := 1) 3 (sv_d k_Lt_hasRoom 1 rfl) cf3 (by decide) w159 kd77 (ss_lt (by decide)) rfl ?_
  refine sv_iload_n (pc := 4) 1 (sv_d k_Lt_hasRoom 2 rfl) rfl rfl ?_
  refine sv_iadd (pc := 5) (sv_d k_Lt_hasRoom 3 rfl) ?_
  refine sv_sipush (pc := 6) (v := (140 : Int32)) (sv_d k_Lt_hasRoom 4 rfl) (by decide) ?_
  refine sv_icmp_gt (pc := 9) (tgt := 16) (sv_d k_Lt_hasRoom 5 rfl) (by decide) ?_ ?_
  · refine sv_iconst (pc := 16) (v := (0 : Int32)) (sv_d k_Lt_hasRoom 8 rfl) (by decide) ?_
    exact sv_ret (pc := 17) (sv_d k_Lt_hasRoom 9 rfl) ⟨_, rfl, rfl⟩ rfl
  · refine sv_iconst (pc := 12) (v := (1 : Int32)) (sv_d k_Lt_hasRoom 6 rfl) (by decide) ?_
    refine sv_goto (pc := 13) (tgt := 17) (sv_d k_Lt_hasRoom 7 rfl) (by decide) ?_
    exact sv_ret (pc := 17) (sv_d k_Lt_hasRoom 9 rfl) ⟨_, rfl, rfl⟩ rfl
/-! Lt_append -/
abbrev m_Lt_append : sv_M := (yX3_append, cX3_append, 4, (some .int))
def t_Lt_append : List (Nat × Instr × Nat) := [(0, .iload_n 2, 1), (1, .iconst 1, 1), (2, .isub, 1), (3, .istore_n 3, 1), (4, .iload_n 3, 1), (5, .ifCond .lt 32, 3), (8, .aload_n 0, 1), (9, .getfield 11, 3), (12, .aload_n 0, 1), (13, .dup, 1), (14, .getfield 22, 3), (17, .dup_x1, 1), (18, .iconst 1, 1), (19, .iadd, 1), (20, .putfield 22, 3), (23, .iload_n 1, 1), (24, .bipush 8, 2), (26, .iload_n 3, 1), (27, .imul, 1), (28, .ishr, 1), (29, .i2b, 1), (30, .bastore, 1), (31, .iinc 3 (-1), 3), (34, .goto (-30), 3), (37, .aload_n 0, 1), (38, .getfield 22, 3), (41, .ireturn, 1)]
theorem k_Lt_append : sv_tk m_Lt_append.2.1 t_Lt_append := by decide +kernel
theorem g_Lt_append : sv_G m_Lt_append 2 := ⟨by decide +kernel, sv_in 616 (by decide +kernel) rfl, sv_in 93 (by decide +kernel) rfl, ⟨by decide, by decide⟩, by decide +kernel, by decide⟩
theorem in_Lt_append : Cond.instanceMethod m_Lt_append.1 ∈ sv_T := sv_in 614 (by decide +kernel) rfl
theorem se_Lt_append : Cond.selects m_Lt_append.1.cls m_Lt_append.1 m_Lt_append.1 ∈ sv_T := sv_in 615 (by decide +kernel) rfl
def F_Lt_append_b4 : Nat → Int32 → Int32 → sv_S → Option (Int32 × sv_S)
  | 0 => fun _ _ _ => none
  | n + 1 => fun x1 x3 s =>
    if x3 < 0 then
      some (s.1 77 3, s)
    else
    ss_let (ss_setI s 77 3 ((s.1 77 3) + (1 : Int32))) fun s2 =>
    if sv_ib (s.1 77 3) 140 = true then
      ss_let (ss_setI s2 78 (s.1 77 3).toNatClampNeg ((x1 >>> (((8 : Int32) * x3) &&& 31)).toInt8.toInt32).toInt8.toInt32) fun s3 =>
      ss_let (x3 + (-1 : Int32)) fun v4 =>
      F_Lt_append_b4  n x1 v4 s3
    else none
theorem V_Lt_append_b4 (E : sv_E) (d : Nat) : ∀ (n : Nat) (x1 : Int32) (x3 : Int32) (s : sv_S), sv_V E m_Lt_append (d + 0) ss_i 4 [(0, sv_r E 77), (1, .int x1), (3, .int x3)] [] (ss_e s) (F_Lt_append_b4 n x1 x3 s) := by
  intro n
  induction n with
  | zero => intro x1 x3 s; exact sv_none
  | succ n ih =>
    intro x1 x3 s
    unfold F_Lt_append_b4
    refine sv_iload_n (pc := 4) 2 (sv_d k_Lt_append 4 rfl) rfl rfl ?_
    refine sv_if_lt (pc := 5) (tgt := 37) (sv_d k_Lt_append 5 rfl) (by decide) ?_ ?_
    · refine sv_aload_n (pc := 37) 0 (sv_d k_Lt_append 24 rfl) rfl rfl ?_
      refine sv_getf (pc := 38) 3 (sv_d k_Lt_append 25 rfl) cf3 (by decide) w159 kd77 (ss_lt (by decide)) rfl ?_
      exact sv_ret (pc := 41) (sv_d k_Lt_append 26 rfl) ⟨_, rfl, rfl⟩ rfl
    · refine sv_aload_n (pc := 8) 0 (sv_d k_Lt_append 6 rfl) rfl rfl ?_
      refine sv_getf (pc := 9) 0 (sv_d k_Lt_append 7 rfl) cf3 (by decide) w155 kd77 (ss_lt (by decide)) (lr_77_0 E _) ?_
      refine sv_aload_n (pc := 12) 0 (sv_d k_Lt_append 8 rfl) rfl rfl ?_
      refine sv_dup (pc := 13) (sv_d k_Lt_append 9 rfl) rfl ?_
      refine sv_getf (pc := 14) 3 (sv_d k_Lt_append 10 rfl) cf3 (by decide) w159 kd77 (ss_lt (by decide)) rfl ?_
      refine sv_dup_x1 (pc := 17) (sv_d k_Lt_append 11 rfl) rfl rfl ?_
      refine sv_iconst (pc := 18) (v := (1 : Int32)) (sv_d k_Lt_append 12 rfl) (by decide) ?_
      refine sv_iadd (pc := 19) (sv_d k_Lt_append 13 rfl) ?_
      refine ss_putI (pc := 20) 3 (sv_d k_Lt_append 14 rfl) cf3 (by decide) rfl w159 kd77 (ss_lt (by decide)) rfl rfl (fun _ => rfl) (ss_lets (fun s2 e_s2 => ?_))
      refine sv_iload_n (pc := 23) 1 (sv_d k_Lt_append 15 rfl) rfl rfl ?_
      refine sv_bipush (pc := 24) (v := (8 : Int32)) (sv_d k_Lt_append 16 rfl) (by decide) ?_
      refine sv_iload_n (pc := 26) 2 (sv_d k_Lt_append 17 rfl) rfl rfl ?_
      refine sv_imul (pc := 27) (sv_d k_Lt_append 18 rfl) ?_
      refine sv_ishr (pc := 28) (sv_d k_Lt_append 19 rfl) ?_
      refine sv_i2b (pc := 29) (sv_d k_Lt_append 20 rfl) ?_
      refine ss_bast (pc := 30) (n := 140) (sv_d k_Lt_append 21 rfl) kd78 (by decide) (ss_lt (by decide)) rfl (ss_lets (fun s3 e_s3 => ?_))
      refine ss_letr (fun v4 e_v4 => ?_)
      refine sv_iinc (pc := 31) (v := v4) (lv' := [(3, .int v4), (0, sv_r E 77), (1, .int x1)]) (sv_d k_Lt_append 22 rfl) (n := 2) rfl (by rw [e_v4]; rfl) (by decide) rfl ?_
      refine sv_goto (pc := 34) (tgt := 4) (sv_d k_Lt_append 23 rfl) (by decide) ?_
      exact sv_loc [1, 2, 0] rfl (ih x1 v4 s3)
def F_Lt_append (x1 : Int32) (x2 : Int32) (s : sv_S) : Option (Int32 × sv_S) :=
  ss_let (x2 - (1 : Int32)) fun v1 =>
  F_Lt_append_b4 ss_F x1 v1 s
theorem V_Lt_append (E : sv_E) (d : Nat) (x1 : Int32) (x2 : Int32) (s : sv_S) : sv_V E m_Lt_append (d + 0) ss_i 0 (lv_args 0 [sv_r E 77, .int x1, .int x2]) [] (ss_e s) (F_Lt_append x1 x2 s) := by
  show sv_V E m_Lt_append (d + 0) ss_i 0 [(0, sv_r E 77), (1, .int x1), (2, .int x2)] [] (ss_e s) _
  unfold F_Lt_append
  refine sv_iload_n (pc := 0) 2 (sv_d k_Lt_append 0 rfl) rfl rfl ?_
  refine sv_iconst (pc := 1) (v := (1 : Int32)) (sv_d k_Lt_append 1 rfl) (by decide) ?_
  refine sv_isub (pc := 2) (sv_d k_Lt_append 2 rfl) ?_
  refine ss_top (fun v1 e_v1 => ?_)
  refine sv_istore_n (pc := 3) (lv' := [(3, .int v1), (0, sv_r E 77), (1, .int x1), (2, .int x2)]) (sv_d k_Lt_append 3 rfl) rfl (by decide) rfl ?_
  exact sv_loc [1, 2, 0] rfl (V_Lt_append_b4 E d ss_F x1 v1 s)
/-! Lt_begin -/
abbrev m_Lt_begin : sv_M := (yX3_begin, cX3_begin, 1, none)
def t_Lt_begin : List (Nat × Instr × Nat) := [(0, .aload_n 0, 1), (1, .iconst 0, 1), (2, .putfield 51, 3), (5, .aload_n 0, 1), (6, .iconst 0, 1), (7, .putfield 58, 3), (10, .aload_n 0, 1), (11, .iconst 0, 1), (12, .putfield 26, 3), (15, .aload_n 0, 1), (16, .iconst 0, 1), (17, .putfield 29, 3), (20, .aload_n 0, 1), (21, .iconst 0, 1), (22, .putfield 38, 3), (25, .aload_n 0, 1), (26, .iconst 0, 1), (27, .putfield 41, 3), (30, .aload_n 0, 1), (31, .getfield 15, 3), (34, .iconst (-1), 1), (35, .invokestatic 61, 3), (38, .return_, 1)]
theorem k_Lt_begin : sv_tk m_Lt_begin.2.1 t_Lt_begin := by decide +kernel
theorem g_Lt_begin : sv_G m_Lt_begin 0 := ⟨by decide +kernel, sv_in 635 (by decide +kernel) rfl, sv_in 93 (by decide +kernel) rfl, ⟨by decide, by decide⟩, by decide +kernel, by decide⟩
theorem in_Lt_begin : Cond.instanceMethod m_Lt_begin.1 ∈ sv_T := sv_in 634 (by decide +kernel) rfl
theorem se_Lt_begin : Cond.selects m_Lt_begin.1.cls m_Lt_begin.1 m_Lt_begin.1 ∈ sv_T := sv_in 1 (by decide +kernel) rfl
def F_Lt_begin (s : sv_S) : Option (sv_S) :=
  ss_let (ss_setI s 77 4 (0 : Int32)) fun s1 =>
  ss_let (ss_setI s1 77 5 (0 : Int32)) fun s2 =>
  ss_let (ss_setI s2 77 6 (0 : Int32)) fun s3 =>
  ss_let (ss_setI s3 77 7 (0 : Int32)) fun s4 =>
  ss_let (ss_setI s4 77 8 (0 : Int32)) fun s5 =>
  ss_let (ss_setI s5 77 9 (0 : Int32)) fun s6 =>
  (F_JA_fillI 79 (-1 : Int32) s6).bind fun r7 =>
  some r7
theorem V_Lt_begin (E : sv_E) (d : Nat) (s : sv_S) : sv_V E m_Lt_begin (d + 1) ss_v 0 (lv_args 0 [sv_r E 77]) [] (ss_e s) (F_Lt_begin s) := by
  show sv_V E m_Lt_begin (d + 1) ss_v 0 [(0, sv_r E 77)] [] (ss_e s) _
  unfold F_Lt_begin
  refine sv_aload_n (pc := 0) 0 (sv_d k_Lt_begin 0 rfl) rfl rfl ?_
  refine sv_iconst (pc := 1) (v := (0 : Int32)) (sv_d k_Lt_begin 1 rfl) (by decide) ?_
  refine ss_putI (pc := 2) 4 (sv_d k_Lt_begin 2 rfl) cf3 (by decide) rfl w161 kd77 (ss_lt (by decide)) rfl rfl (fun _ => rfl) (ss_lets (fun s1 e_s1 => ?_))
  refine sv_aload_n (pc := 5) 0 (sv_d k_Lt_begin 3 rfl) rfl rfl ?_
  refine sv_iconst (pc := 6) (v := (0 : Int32)) (sv_d k_Lt_begin 4 rfl) (by decide) ?_
  refine ss_putI (pc := 7) 5 (sv_d k_Lt_begin 5 rfl) cf3 (by decide) rfl w163 kd77 (ss_lt (by decide)) rfl rfl (fun _ => rfl) (ss_lets (fun s2 e_s2 => ?_))
  refine sv_aload_n (pc := 10) 0 (sv_d k_Lt_begin 6 rfl) rfl rfl ?_
  refine sv_iconst (pc := 11) (v := (0 : Int32)) (sv_d k_Lt_begin 7 rfl) (by decide) ?_
  refine ss_putI (pc := 12) 6 (sv_d k_Lt_begin 8 rfl) cf3 (by decide) rfl w164 kd77 (ss_lt (by decide)) rfl rfl (fun _ => rfl) (ss_lets (fun s3 e_s3 => ?_))
  refine sv_aload_n (pc := 15) 0 (sv_d k_Lt_begin 9 rfl) rfl rfl ?_
  refine sv_iconst (pc := 16) (v := (0 : Int32)) (sv_d k_Lt_begin 10 rfl) (by decide) ?_
  refine ss_putI (pc := 17) 7 (sv_d k_Lt_begin 11 rfl) cf3 (by decide) rfl w165 kd77 (ss_lt (by decide)) rfl rfl (fun _ => rfl) (ss_lets (fun s4 e_s4 => ?_))
  refine sv_aload_n (pc := 20) 0 (sv_d k_Lt_begin 12 rfl) rfl rfl ?_
  refine sv_iconst (pc := 21) (v := (0 : Int32)) (sv_d k_Lt_begin 13 rfl) (by decide) ?_
  refine ss_putI (pc := 22) 8 (sv_d k_Lt_begin 14 rfl) cf3 (by decide) rfl w166 kd77 (ss_lt (by decide)) rfl rfl (fun _ => rfl) (ss_lets (fun s5 e_s5 => ?_))
  refine sv_aload_n (pc := 25) 0 (sv_d k_Lt_begin 15 rfl) rfl rfl ?_
  refine sv_iconst (pc := 26) (v := (0 : Int32)) (sv_d k_Lt_begin 16 rfl) (by decide) ?_
  refine ss_putI (pc := 27) 9 (sv_d k_Lt_begin 17 rfl) cf3 (by decide) rfl w167 kd77 (ss_lt (by decide)) rfl rfl (fun _ => rfl) (ss_lets (fun s6 e_s6 => ?_))
  refine sv_aload_n (pc := 30) 0 (sv_d k_Lt_begin 18 rfl) rfl rfl ?_
  refine sv_getf (pc := 31) 1 (sv_d k_Lt_begin 19 rfl) cf3 (by decide) w156 kd77 (ss_lt (by decide)) (lr_77_1 E _) ?_
  refine sv_iconst (pc := 34) (v := (-1 : Int32)) (sv_d k_Lt_begin 20 rfl) (by decide) ?_
  refine sv_callS (pc := 35) (ψ := ss_v) (As := [sv_r E 79, .int (-1 : Int32)]) (rest := []) (sv_d k_Lt_begin 21 rfl) g_JA_fillI w636 st_JA_fillI rfl (Nat.le_of_ble_eq_true rfl) (V_JA_fillI E (d + 0) 79 (-1 : Int32) s6 kd79 (by decide) (ss_lt (s := s6) (by decide))) (Nat.le_of_ble_eq_true rfl) rfl (fun r7 => ?_)
  show sv_V E _ _ _ 38 _ [] (ss_e r7) _
  exact sv_retv (pc := 38) (sv_d k_Lt_begin 22 rfl) rfl rfl
/-! Lt_takes -/
abbrev m_Lt_takes : sv_M := (yX3_takes, cX3_takes, 2, (some .boolean))
def t_Lt_takes : List (Nat × Instr × Nat) := [(0, .aload_n 0, 1), (1, .getfield 51, 3), (4, .aload_n 0, 1), (5, .getfield 22, 3), (8, .if_icmp .ge 28, 3), (11, .aload_n 0, 1), (12, .getfield 11, 3), (15, .aload_n 0, 1), (16, .getfield 51, 3), (19, .baload, 1), (20, .iload_n 1, 1), (21, .if_icmp .ne 15, 3), (24, .aload_n 0, 1), (25, .dup, 1), (26, .getfield 51, 3), (29, .iconst 1, 1), (30, .iadd, 1), (31, .putfield 51, 3), (34, .iconst 1, 1), (35, .ireturn, 1), (36, .iconst 0, 1), (37, .ireturn, 1)]
theorem k_Lt_takes : sv_tk m_Lt_takes.2.1 t_Lt_takes := by decide +kernel
theorem g_Lt_takes : sv_G m_Lt_takes 1 := ⟨by decide +kernel, sv_in 721 (by decide +kernel) rfl, sv_in 93 (by decide +kernel) rfl, ⟨by decide, by decide⟩, by decide +kernel, by decide⟩
theorem in_Lt_takes : Cond.instanceMethod m_Lt_takes.1 ∈ sv_T := sv_in 720 (by decide +kernel) rfl
theorem se_Lt_takes : Cond.selects m_Lt_takes.1.cls m_Lt_takes.1 m_Lt_takes.1 ∈ sv_T := sv_in 6 (by decide +kernel) rfl
def F_Lt_takes (x1 : Int32) (s : sv_S) : Option (Int32 × sv_S) :=
  if (s.1 77 3) ≤ (s.1 77 4) then
    some ((0 : Int32), s)
  else
  if sv_ib (s.1 77 4) 140 = true then
    if (s.1 78 (s.1 77 4).toNatClampNeg) = x1 then
      ss_let (ss_setI s 77 4 ((s.1 77 4) + (1 : Int32))) fun s1 =>
      some ((1 : Int32), s1)
    else
    some ((0 : Int32), s)
  else none
theorem V_Lt_takes (E : sv_E) (d : Nat) (x1 : Int32) (s : sv_S) : sv_V E m_Lt_takes (d + 0) ss_i 0 (lv_args 0 [sv_r E 77, .int x1]) [] (ss_e s) (F_Lt_takes x1 s) := by
  show sv_V E m_Lt_takes (d + 0) ss_i 0 [(0, sv_r E 77), (1, .int x1)] [] (ss_e s) _
  unfold F_Lt_takes
  refine sv_aload_n (pc := 0) 0 (sv_d k_Lt_takes 0 rfl) rfl rfl ?_
  refine sv_getf (pc := 1) 4 (sv_d k_Lt_takes 1 rfl) cf3 (by decide) w161 kd77 (ss_lt (by decide)) rfl ?_
  refine sv_aload_n (pc := 4) 0 (sv_d k_Lt_takes 2 rfl) rfl rfl ?_
  refine sv_getf (pc := 5) 3 (sv_d k_Lt_takes 3 rfl) cf3 (by decide) w159 kd77 (ss_lt (by decide)) rfl ?_
  refine sv_icmp_ge (pc := 8) (tgt := 36) (sv_d k_Lt_takes 4 rfl) (by decide) ?_ ?_
  · refine sv_iconst (pc := 36) (v := (0 : Int32)) (sv_d k_Lt_takes 20 rfl) (by decide) ?_
    exact sv_ret (pc := 37) (sv_d k_Lt_takes 21 rfl) ⟨_, rfl, rfl⟩ rfl
  · refine sv_aload_n (pc := 11) 0 (sv_d k_Lt_takes 5 rfl) rfl rfl ?_
    refine sv_getf (pc := 12) 0 (sv_d k_Lt_takes 6 rfl) cf3 (by decide) w155 kd77 (ss_lt (by decide)) (lr_77_0 E _) ?_
    refine sv_aload_n (pc := 15) 0 (sv_d k_Lt_takes 7 rfl) rfl rfl ?_
    refine sv_getf (pc := 16) 4 (sv_d k_Lt_takes 8 rfl) cf3 (by decide) w161 kd77 (ss_lt (by decide)) rfl ?_
    refine ss_bald (pc := 19) (n := 140) (sv_d k_Lt_takes 9 rfl) kd78 (ss_lt (by decide)) rfl ?_
    refine sv_iload_n (pc := 20) 1 (sv_d k_Lt_takes 10 rfl) rfl rfl ?_
    refine sv_icmp_ne (pc := 21) (tgt := 36) (sv_d k_Lt_takes 11 rfl) (by decide) ?_ ?_
    · refine sv_iconst (pc := 36) (v := (0 : Int32)) (sv_d k_Lt_takes 20 rfl) (by decide) ?_
      exact sv_ret (pc := 37) (sv_d k_Lt_takes 21 rfl) ⟨_, rfl, rfl⟩ rfl
    · refine sv_aload_n (pc := 24) 0 (sv_d k_Lt_takes 12 rfl) rfl rfl ?_
      refine sv_dup (pc := 25) (sv_d k_Lt_takes 13 rfl) rfl ?_
      refine sv_getf (pc := 26) 4 (sv_d k_Lt_takes 14 rfl) cf3 (by decide) w161 kd77 (ss_lt (by decide)) rfl ?_
      refine sv_iconst (pc := 29) (v := (1 : Int32)) (sv_d k_Lt_takes 15 rfl) (by decide) ?_
      refine sv_iadd (pc := 30) (sv_d k_Lt_takes 16 rfl) ?_
      refine ss_putI (pc := 31) 4 (sv_d k_Lt_takes 17 rfl) cf3 (by decide) rfl w161 kd77 (ss_lt (by decide)) rfl rfl (fun _ => rfl) (ss_lets (fun s1 e_s1 => ?_))
      refine sv_iconst (pc := 34) (v := (1 : Int32)) (sv_d k_Lt_takes 18 rfl) (by decide) ?_
      exact sv_ret (pc := 35) (sv_d k_Lt_takes 19 rfl) ⟨_, rfl, rfl⟩ rfl
/-! Lt_number -/
abbrev m_Lt_number : sv_M := (yX3_number, cX3_number, 4, (some .int))
def t_Lt_number : List (Nat × Instr × Nat) := [(0, .iconst 0, 1), (1, .istore_n 2, 1), (2, .iconst 0, 1), (3, .istore_n 3, 1), (4, .iload_n 3, 1), (5, .iload_n 1, 1), (6, .if_icmp .ge 76, 3), (9, .aload_n 0, 1), (10, .getfield 51, 3), (13, .aload_n 0, 1), (14, .getfield 22, 3), (17, .if_icmp .ge 65, 3), (20, .aload_n 0, 1), (21, .getfield 11, 3), (24, .aload_n 0, 1), (25, .getfield 51, 3), (28, .baload, 1), (29, .bipush 48, 2), (31, .if_icmp .lt 51, 3), (34, .aload_n 0, 1), (35, .getfield 11, 3), (38, .aload_n 0, 1), (39, .getfield 51, 3), (42, .baload, 1), (43, .bipush 57, 2), (45, .if_icmp .gt 37, 3), (48, .iload_n 2, 1), (49, .bipush 10, 2), (51, .imul, 1), (52, .aload_n 0, 1), (53, .getfield 11, 3), (56, .aload_n 0, 1), (57, .getfield 51, 3), (60, .baload, 1), (61, .iadd, 1), (62, .bipush 48, 2), (64, .isub, 1), (65, .istore_n 2, 1), (66, .aload_n 0, 1), (67, .dup, 1), (68, .getfield 51, 3), (71, .iconst 1, 1), (72, .iadd, 1), (73, .putfield 51, 3), (76, .iinc 3 1, 3), (79, .goto (-75), 3), (82, .iload_n 3, 1), (83, .ifCond .ne 7, 3), (86, .iconst (-1), 1), (87, .goto 4, 3), (90, .iload_n 2, 1), (91, .ireturn, 1)]
theorem k_Lt_number : sv_tk m_Lt_number.2.1 t_Lt_number := by decide +kernel
theorem g_Lt_number : sv_G m_Lt_number 1 := ⟨by decide +kernel, sv_in 725 (by decide +kernel) rfl, sv_in 93 (by decide +kernel) rfl, ⟨by decide, by decide⟩, by decide +kernel, by decide⟩
theorem in_Lt_number : Cond.instanceMethod m_Lt_number.1 ∈ sv_T := sv_in 724 (by decide +kernel) rfl
theorem se_Lt_number : Cond.selects m_Lt_number.1.cls m_Lt_number.1 m_Lt_number.1 ∈ sv_T := sv_in 7 (by decide +kernel) rfl
def F_Lt_number_b4 : Nat → Int32 → Int32 → Int32 → sv_S → Option (Int32 × sv_S)
  | 0 => fun _ _ _ _ => none
  | n + 1 => fun x1 x2 x3 s =>
    if x1 ≤ x3 then
      if x3 = 0 then
        some ((-1 : Int32), s)
      else
      some (x2, s)
    else
    if (s.1 77 3) ≤ (s.1 77 4) then
      if x3 = 0 then
        some ((-1 : Int32), s)
      else
      some (x2, s)
    else
    if sv_ib (s.1 77 4) 140 = true then
      if (s.1 78 (s.1 77 4).toNatClampNeg) < (48 : Int32) then
        if x3 = 0 then
          some ((-1 : Int32), s)
        else
        some (x2, s)
      else
      if sv_ib (s.1 77 4) 140 = true then
        if (57 : Int32) < (s.1 78 (s.1 77 4).toNatClampNeg) then
          if x3 = 0 then
            some ((-1 : Int32), s)
          else
          some (x2, s)
        else
        if sv_ib (s.1 77 4) 140 = true then
          ss_let (((x2 * (10 : Int32)) + (s.1 78 (s.1 77 4).toNatClampNeg)) - (48 : Int32)) fun v1 =>
          ss_let (ss_setI s 77 4 ((s.1 77 4) + (1 : Int32))) fun s2 =>
          ss_let (x3 + (1 : Int32)) fun v3 =>
          F_Lt_number_b4  n x1 v1 v3 s2
        else none
      else none
    else none
theorem V_Lt_number_b4 (E : sv_E) (d : Nat) : ∀ (n : Nat) (x1 : Int32) (x2 : Int32) (x3 : Int32) (s : sv_S), sv_V E m_Lt_number (d + 0) ss_i 4 [(0, sv_r E 77), (1, .int x1), (2, .int x2), (3, .int x3)] [] (ss_e s) (F_Lt_number_b4 n x1 x2 x3 s) := by
  intro n
  induction n with
  | zero => intro x1 x2 x3 s; exact sv_none
  | succ n ih =>
    intro x1 x2 x3 s
    unfold F_Lt_number_b4
    refine sv_iload_n (pc := 4) 3 (sv_d k_Lt_number 4 rfl) rfl rfl ?_
    refine sv_iload_n (pc := 5) 1 (sv_d k_Lt_number 5 rfl) rfl rfl ?_
    refine sv_icmp_ge (pc := 6) (tgt := 82) (sv_d k_Lt_number 6 rfl) (by decide) ?_ ?_
    · refine sv_iload_n (pc := 82) 3 (sv_d k_Lt_number 46 rfl) rfl rfl ?_
      refine sv_if_ne (pc := 83) (tgt := 90) (sv_d k_Lt_number 47 rfl) (by decide) ?_ ?_
      · refine sv_iload_n (pc := 90) 2 (sv_d k_Lt_number 50 rfl) rfl rfl ?_
        exact sv_ret (pc := 91) (sv_d k_Lt_number 51 rfl) ⟨_, rfl, rfl⟩ rfl
      · refine sv_iconst (pc := 86) (v := (-1 : Int32)) (sv_d k_Lt_number 48 rfl) (by decide) ?_
        refine sv_goto (pc := 87) (tgt := 91) (sv_d k_Lt_number 49 rfl) (by decide) ?_
        exact sv_ret (pc := 91) (sv_d k_Lt_number 51 rfl) ⟨_, rfl, rfl⟩ rfl
    · refine sv_aload_n (pc := 9) 0 (sv_d k_Lt_number 7 rfl) rfl rfl ?_
      refine sv_getf (pc := 10) 4 (sv_d k_Lt_number 8 rfl) cf3 (by decide) w161 kd77 (ss_lt (by decide)) rfl ?_
      refine sv_aload_n (pc := 13) 0 (sv_d k_Lt_number 9 rfl) rfl rfl ?_
      refine sv_getf (pc := 14) 3 (sv_d k_Lt_number 10 rfl) cf3 (by decide) w159 kd77 (ss_lt (by decide)) rfl ?_
      refine sv_icmp_ge (pc := 17) (tgt := 82) (sv_d k_Lt_number 11 rfl) (by decide) ?_ ?_
      · refine sv_iload_n (pc := 82) 3 (sv_d k_Lt_number 46 rfl) rfl rfl ?_
        refine sv_if_ne (pc := 83) (tgt := 90) (sv_d k_Lt_number 47 rfl) (by decide) ?_ ?_
        · refine sv_iload_n (pc := 90) 2 (sv_d k_Lt_number 50 rfl) rfl rfl ?_
          exact sv_ret (pc := 91) (sv_d k_Lt_number 51 rfl) ⟨_, rfl, rfl⟩ rfl
        · refine sv_iconst (pc := 86) (v := (-1 : Int32)) (sv_d k_Lt_number 48 rfl) (by decide) ?_
          refine sv_goto (pc := 87) (tgt := 91) (sv_d k_Lt_number 49 rfl) (by decide) ?_
          exact sv_ret (pc := 91) (sv_d k_Lt_number 51 rfl) ⟨_, rfl, rfl⟩ rfl
      · refine sv_aload_n (pc := 20) 0 (sv_d k_Lt_number 12 rfl) rfl rfl ?_
        refine sv_getf (pc := 21) 0 (sv_d k_Lt_number 13 rfl) cf3 (by decide) w155 kd77 (ss_lt (by decide)) (lr_77_0 E _) ?_
        refine sv_aload_n (pc := 24) 0 (sv_d k_Lt_number 14 rfl) rfl rfl ?_
        refine sv_getf (pc := 25) 4 (sv_d k_Lt_number 15 rfl) cf3 (by decide) w161 kd77 (ss_lt (by decide)) rfl ?_
        refine ss_bald (pc := 28) (n := 140) (sv_d k_Lt_number 16 rfl) kd78 (ss_lt (by decide)) rfl ?_
        refine sv_bipush (pc := 29) (v := (48 : Int32)) (sv_d k_Lt_number 17 rfl) (by decide) ?_
        refine sv_icmp_lt (pc := 31) (tgt := 82) (sv_d k_Lt_number 18 rfl) (by decide) ?_ ?_
        · refine sv_iload_n (pc := 82) 3 (sv_d k_Lt_number 46 rfl) rfl rfl ?_
          refine sv_if_ne (pc := 83) (tgt := 90) (sv_d k_Lt_number 47 rfl) (by decide) ?_ ?_
          · refine sv_iload_n (pc := 90) 2 (sv_d k_Lt_number 50 rfl) rfl rfl ?_
            exact sv_ret (pc := 91) (sv_d k_Lt_number 51 rfl) ⟨_, rfl, rfl⟩ rfl
          · refine sv_iconst (pc := 86) (v := (-1 : Int32)) (sv_d k_Lt_number 48 rfl) (by decide) ?_
            refine sv_goto (pc := 87) (tgt := 91) (sv_d k_Lt_number 49 rfl) (by decide) ?_
            exact sv_ret (pc := 91) (sv_d k_Lt_number 51 rfl) ⟨_, rfl, rfl⟩ rfl
        · refine sv_aload_n (pc := 34) 0 (sv_d k_Lt_number 19 rfl) rfl rfl ?_
          refine sv_getf (pc := 35) 0 (sv_d k_Lt_number 20 rfl) cf3 (by decide) w155 kd77 (ss_lt (by decide)) (lr_77_0 E _) ?_
          refine sv_aload_n (pc := 38) 0 (sv_d k_Lt_number 21 rfl) rfl rfl ?_
          refine sv_getf (pc := 39) 4 (sv_d k_Lt_number 22 rfl) cf3 (by decide) w161 kd77 (ss_lt (by decide)) rfl ?_
          refine ss_bald (pc := 42) (n := 140) (sv_d k_Lt_number 23 rfl) kd78 (ss_lt (by decide)) rfl ?_
          refine sv_bipush (pc := 43) (v := (57 : Int32)) (sv_d k_Lt_number 24 rfl) (by decide) ?_
          refine sv_icmp_gt (pc := 45) (tgt := 82) (sv_d k_Lt_number 25 rfl) (by decide) ?_ ?_
          · refine sv_iload_n (pc := 82) 3 (sv_d k_Lt_number 46 rfl) rfl rfl ?_
            refine sv_if_ne (pc := 83) (tgt := 90) (sv_d k_Lt_number 47 rfl) (by decide) ?_ ?_
            · refine sv_iload_n (pc := 90) 2 (sv_d k_Lt_number 50 rfl) rfl rfl ?_
              exact sv_ret (pc := 91) (sv_d k_Lt_number 51 rfl) ⟨_, rfl, rfl⟩ rfl
            · refine sv_iconst (pc := 86) (v := (-1 : Int32)) (sv_d k_Lt_number 48 rfl) (by decide) ?_
              refine sv_goto (pc := 87) (tgt := 91) (sv_d k_Lt_number 49 rfl) (by decide) ?_
              exact sv_ret (pc := 91) (sv_d k_Lt_number 51 rfl) ⟨_, rfl, rfl⟩ rfl
          · refine sv_iload_n (pc := 48) 2 (sv_d k_Lt_number 26 rfl) rfl rfl ?_
            refine sv_bipush (pc := 49) (v := (10 : Int32)) (sv_d k_Lt_number 27 rfl) (by decide) ?_
            refine sv_imul (pc := 51) (sv_d k_Lt_number 28 rfl) ?_
            refine sv_aload_n (pc := 52) 0 (sv_d k_Lt_number 29 rfl) rfl rfl ?_
            refine sv_getf (pc := 53) 0 (sv_d k_Lt_number 30 rfl) cf3 (by decide) w155 kd77 (ss_lt (by decide)) (lr_77_0 E _) ?_
            refine sv_aload_n (pc := 56) 0 (sv_d k_Lt_number 31 rfl) rfl rfl ?_
            refine sv_getf (pc := 57) 4 (sv_d k_Lt_number 32 rfl) cf3 (by decide) w161 kd77 (ss_lt (by decide)) rfl ?_
            refine ss_bald (pc := 60) (n := 140) (sv_d k_Lt_number 33 rfl) kd78 (ss_lt (by decide)) rfl ?_
            refine sv_iadd (pc := 61) (sv_d k_Lt_number 34 rfl) ?_
            refine sv_bipush (pc := 62) (v := (48 : Int32)) (sv_d k_Lt_number 35 rfl) (by decide) ?_
            refine sv_isub (pc := 64) (sv_d k_Lt_number 36 rfl) ?_
            refine ss_top (fun v1 e_v1 => ?_)
            refine sv_istore_n (pc := 65) (lv' := [(2, .int v1), (0, sv_r E 77), (1, .int x1), (3, .int x3)]) (sv_d k_Lt_number 37 rfl) rfl (by decide) rfl ?_
            refine sv_aload_n (pc := 66) 1 (sv_d k_Lt_number 38 rfl) rfl rfl ?_
            refine sv_dup (pc := 67) (sv_d k_Lt_number 39 rfl) rfl ?_
            refine sv_getf (pc := 68) 4 (sv_d k_Lt_number 40 rfl) cf3 (by decide) w161 kd77 (ss_lt (by decide)) rfl ?_
            refine sv_iconst (pc := 71) (v := (1 : Int32)) (sv_d k_Lt_number 41 rfl) (by decide) ?_
            refine sv_iadd (pc := 72) (sv_d k_Lt_number 42 rfl) ?_
            refine ss_putI (pc := 73) 4 (sv_d k_Lt_number 43 rfl) cf3 (by decide) rfl w161 kd77 (ss_lt (by decide)) rfl rfl (fun _ => rfl) (ss_lets (fun s2 e_s2 => ?_))
            refine ss_letr (fun v3 e_v3 => ?_)
            refine sv_iinc (pc := 76) (v := v3) (lv' := [(3, .int v3), (2, .int v1), (0, sv_r E 77), (1, .int x1)]) (sv_d k_Lt_number 44 rfl) (n := 3) rfl (by rw [e_v3]; rfl) (by decide) rfl ?_
            refine sv_goto (pc := 79) (tgt := 4) (sv_d k_Lt_number 45 rfl) (by decide) ?_
            exact sv_loc [2, 3, 1, 0] rfl (ih x1 v1 v3 s2)
def F_Lt_number (x1 : Int32) (s : sv_S) : Option (Int32 × sv_S) :=
  F_Lt_number_b4 ss_F x1 (0 : Int32) (0 : Int32) s
theorem V_Lt_number (E : sv_E) (d : Nat) (x1 : Int32) (s : sv_S) : sv_V E m_Lt_number (d + 0) ss_i 0 (lv_args 0 [sv_r E 77, .int x1]) [] (ss_e s) (F_Lt_number x1 s) := by
  show sv_V E m_Lt_number (d + 0) ss_i 0 [(0, sv_r E 77), (1, .int x1)] [] (ss_e s) _
  unfold F_Lt_number
  refine sv_iconst (pc := 0) (v := (0 : Int32)) (sv_d k_Lt_number 0 rfl) (by decide) ?_
  refine sv_istore_n (pc := 1) (lv' := [(2, .int (0 : Int32)), (0, sv_r E 77), (1, .int x1)]) (sv_d k_Lt_number 1 rfl) rfl (by decide) rfl ?_
  refine sv_iconst (pc := 2) (v := (0 : Int32)) (sv_d k_Lt_number 2 rfl) (by decide) ?_
  refine sv_istore_n (pc := 3) (lv' := [(3, .int (0 : Int32)), (2, .int (0 : Int32)), (0, sv_r E 77), (1, .int x1)]) (sv_d k_Lt_number 3 rfl) rfl (by decide) rfl ?_
  exact sv_loc [2, 3, 1, 0] rfl (V_Lt_number_b4 E d ss_F x1 (0 : Int32) (0 : Int32) s)
/-! Lt_numberInto -/
abbrev m_Lt_numberInto : sv_M := (yX3_numberInto, cX3_numberInto, 3, (some .boolean))
def t_Lt_numberInto : List (Nat × Instr × Nat) := [(0, .aload_n 0, 1), (1, .iconst 4, 1), (2, .invokevirtual 126, 3), (5, .istore_n 2, 1), (6, .iload_n 2, 1), (7, .ifCond .ge 5, 3), (10, .iconst 0, 1), (11, .ireturn, 1), (12, .aload_n 0, 1), (13, .getfield 15, 3), (16, .iload_n 1, 1), (17, .iload_n 2, 1), (18, .iastore, 1), (19, .iconst 1, 1), (20, .ireturn, 1)]
theorem k_Lt_numberInto : sv_tk m_Lt_numberInto.2.1 t_Lt_numberInto := by decide +kernel
theorem g_Lt_numberInto : sv_G m_Lt_numberInto 1 := ⟨by decide +kernel, sv_in 733 (by decide +kernel) rfl, sv_in 93 (by decide +kernel) rfl, ⟨by decide, by decide⟩, by decide +kernel, by decide⟩
theorem in_Lt_numberInto : Cond.instanceMethod m_Lt_numberInto.1 ∈ sv_T := sv_in 732 (by decide +kernel) rfl
theorem se_Lt_numberInto : Cond.selects m_Lt_numberInto.1.cls m_Lt_numberInto.1 m_Lt_numberInto.1 ∈ sv_T := sv_in 9 (by decide +kernel) rfl
def F_Lt_numberInto (x1 : Int32) (s : sv_S) : Option (Int32 × sv_S) :=
  (F_Lt_number (4 : Int32) s).bind fun r1 =>
  if 0 ≤ r1.1 then
    if sv_ib x1 40 = true then
      ss_let (ss_setI r1.2 79 x1.toNatClampNeg r1.1) fun s2 =>
      some ((1 : Int32), s2)
    else none
  else
  some ((0 : Int32), r1.2)
theorem V_Lt_numberInto (E : sv_E) (d : Nat) (x1 : Int32) (s : sv_S) : sv_V E m_Lt_numberInto (d + 1) ss_i 0 (lv_args 0 [sv_r E 77, .int x1]) [] (ss_e s) (F_Lt_numberInto x1 s) := by
  show sv_V E m_Lt_numberInto (d + 1) ss_i 0 [(0, sv_r E 77), (1, .int x1)] [] (ss_e s) _
  unfold F_Lt_numberInto
  refine sv_aload_n (pc := 0) 0 (sv_d k_Lt_numberInto 0 rfl) rfl rfl ?_
  refine sv_iconst (pc := 1) (v := (4 : Int32)) (sv_d k_Lt_numberInto 1 rfl) (by decide) ?_
  refine sv_callV (pc := 2) (ψ := ss_i) (As := [.int (4 : Int32)]) (rest := []) (c := 77) (sv_d k_Lt_numberInto 2 rfl) g_Lt_number w722 in_Lt_number se_Lt_number cf3 kd77 (ss_lt (by decide)) rfl (Nat.le_of_ble_eq_true rfl) (V_Lt_number E (d + 0) (4 : Int32) s) (Nat.le_of_ble_eq_true rfl) rfl (fun r1 => ?_)
  show sv_V E _ _ _ 5 _ [.int r1.1] (ss_e r1.2) _
  refine sv_istore_n (pc := 5) (lv' := [(2, .int r1.1), (0, sv_r E 77), (1, .int x1)]) (sv_d k_Lt_numberInto 3 rfl) rfl (by decide) rfl ?_
  refine sv_iload_n (pc := 6) 0 (sv_d k_Lt_numberInto 4 rfl) rfl rfl ?_
  refine sv_if_ge (pc := 7) (tgt := 12) (sv_d k_Lt_numberInto 5 rfl) (by decide) ?_ ?_
  · refine sv_aload_n (pc := 12) 1 (sv_d k_Lt_numberInto 8 rfl) rfl rfl ?_
    refine sv_getf (pc := 13) 1 (sv_d k_Lt_numberInto 9 rfl) cf3 (by decide) w156 kd77 (ss_lt (by decide)) (lr_77_1 E _) ?_
    refine sv_iload_n (pc := 16) 2 (sv_d k_Lt_numberInto 10 rfl) rfl rfl ?_
    refine sv_iload_n (pc := 17) 0 (sv_d k_Lt_numberInto 11 rfl) rfl rfl ?_
    refine ss_iast (pc := 18) (n := 40) (sv_d k_Lt_numberInto 12 rfl) kd79 (by decide) (ss_lt (by decide)) rfl (ss_lets (fun s2 e_s2 => ?_))
    refine sv_iconst (pc := 19) (v := (1 : Int32)) (sv_d k_Lt_numberInto 13 rfl) (by decide) ?_
    exact sv_ret (pc := 20) (sv_d k_Lt_numberInto 14 rfl) ⟨_, rfl, rfl⟩ rfl
  · refine sv_iconst (pc := 10) (v := (0 : Int32)) (sv_d k_Lt_numberInto 6 rfl) (by decide) ?_
    exact sv_ret (pc := 11) (sv_d k_Lt_numberInto 7 rfl) ⟨_, rfl, rfl⟩ rfl
/-! Lt_goodClause -/
abbrev m_Lt_goodClause : sv_M := (yX3_goodClause, cX3_goodClause, 4, (some .boolean))
def t_Lt_goodClause : List (Nat × Instr × Nat) := [(0, .aload_n 0, 1), (1, .bipush 32, 2), (3, .invokevirtual 54, 3), (6, .ifCond .ne 5, 3), (9, .iconst 0, 1), (10, .ireturn, 1), (11, .aload_n 0, 1), (12, .iconst 1, 1), (13, .invokevirtual 126, 3), (16, .istore_n 1, 1), (17, .iload_n 1, 1), (18, .iconst 1, 1), (19, .if_icmp .ne 11, 3), (22, .aload_n 0, 1), (23, .iconst 1, 1), (24, .invokevirtual 126, 3), (27, .goto 4, 3), (30, .iconst (-1), 1), (31, .istore_n 2, 1), (32, .iload_n 1, 1), (33, .ifCond .lt 12, 3), (36, .aload_n 0, 1), (37, .bipush 32, 2), (39, .invokevirtual 54, 3), (42, .ifCond .ne 5, 3), (45, .iconst 0, 1), (46, .ireturn, 1), (47, .aload_n 0, 1), (48, .iconst 1, 1), (49, .invokevirtual 126, 3), (52, .istore_n 3, 1), (53, .iload_n 3, 1), (54, .ifCond .ge 5, 3), (57, .iconst 0, 1), (58, .ireturn, 1), (59, .aload_n 0, 1), (60, .getfield 15, 3), (63, .bipush 20, 2), (65, .iload_n 2, 1), (66, .ifCond .ge 7, 3), (69, .iload_n 1, 1), (70, .goto 7, 3), (73, .bipush 10, 2), (75, .iload_n 2, 1), (76, .iadd, 1), (77, .iadd, 1), (78, .iload_n 3, 1), (79, .iastore, 1), (80, .iconst 1, 1), (81, .ireturn, 1)]
theorem k_Lt_goodClause : sv_tk m_Lt_goodClause.2.1 t_Lt_goodClause := by decide +kernel
theorem g_Lt_goodClause : sv_G m_Lt_goodClause 0 := ⟨by decide +kernel, sv_in 717 (by decide +kernel) rfl, sv_in 93 (by decide +kernel) rfl, ⟨by decide, by decide⟩, by decide +kernel, by decide⟩
theorem in_Lt_goodClause : Cond.instanceMethod m_Lt_goodClause.1 ∈ sv_T := sv_in 716 (by decide +kernel) rfl
theorem se_Lt_goodClause : Cond.selects m_Lt_goodClause.1.cls m_Lt_goodClause.1 m_Lt_goodClause.1 ∈ sv_T := sv_in 5 (by decide +kernel) rfl
def F_Lt_goodClause_b31 (x1 : Int32) (t0 : Int32) (s : sv_S) : Option (Int32 × sv_S) :=
  if x1 < 0 then
    some ((0 : Int32), s)
  else
  (F_Lt_takes (32 : Int32) s).bind fun r3 =>
  if r3.1 = 0 then
    some ((0 : Int32), r3.2)
  else
  (F_Lt_number (1 : Int32) r3.2).bind fun r4 =>
  if 0 ≤ r4.1 then
    if 0 ≤ t0 then
      if sv_ib ((20 : Int32) + ((10 : Int32) + t0)) 40 = true then
        ss_let (ss_setI r4.2 79 ((20 : Int32) + ((10 : Int32) + t0)).toNatClampNeg r4.1) fun s5 =>
        some ((1 : Int32), s5)
      else none
    else
    if sv_ib ((20 : Int32) + x1) 40 = true then
      ss_let (ss_setI r4.2 79 ((20 : Int32) + x1).toNatClampNeg r4.1) fun s6 =>
      some ((1 : Int32), s6)
    else none
  else
  some ((0 : Int32), r4.2)
theorem V_Lt_goodClause_b31 (E : sv_E) (d : Nat) (x1 : Int32) (t0 : Int32) (s : sv_S) : sv_V E m_Lt_goodClause (d + 1) ss_i 31 [(0, sv_r E 77), (1, .int x1)] [.int t0] (ss_e s) (F_Lt_goodClause_b31 x1 t0 s) := by
  unfold F_Lt_goodClause_b31
  refine sv_istore_n (pc := 31) (lv' := [(2, .int t0), (0, sv_r E 77), (1, .int x1)]) (sv_d k_Lt_goodClause 18 rfl) rfl (by decide) rfl ?_
  refine sv_iload_n (pc := 32) 2 (sv_d k_Lt_goodClause 19 rfl) rfl rfl ?_
  refine sv_if_lt (pc := 33) (tgt := 45) (sv_d k_Lt_goodClause 20 rfl) (by decide) ?_ ?_
  · refine sv_iconst (pc := 45) (v := (0 : Int32)) (sv_d k_Lt_goodClause 25 rfl) (by decide) ?_
    exact sv_ret (pc := 46) (sv_d k_Lt_goodClause 26 rfl) ⟨_, rfl, rfl⟩ rfl
  · refine sv_aload_n (pc := 36) 1 (sv_d k_Lt_goodClause 21 rfl) rfl rfl ?_
    refine sv_bipush (pc := 37) (v := (32 : Int32)) (sv_d k_Lt_goodClause 22 rfl) (by decide) ?_
    refine sv_callV (pc := 39) (ψ := ss_i) (As := [.int (32 : Int32)]) (rest := []) (c := 77) (sv_d k_Lt_goodClause 23 rfl) g_Lt_takes w718 in_Lt_takes se_Lt_takes cf3 kd77 (ss_lt (by decide)) rfl (Nat.le_of_ble_eq_true rfl) (V_Lt_takes E (d + 0) (32 : Int32) s) (Nat.le_of_ble_eq_true rfl) rfl (fun r3 => ?_)
    show sv_V E _ _ _ 42 _ [.int r3.1] (ss_e r3.2) _
    refine sv_if_ne (pc := 42) (tgt := 47) (sv_d k_Lt_goodClause 24 rfl) (by decide) ?_ ?_
    · refine sv_aload_n (pc := 47) 1 (sv_d k_Lt_goodClause 27 rfl) rfl rfl ?_
      refine sv_iconst (pc := 48) (v := (1 : Int32)) (sv_d k_Lt_goodClause 28 rfl) (by decide) ?_
      refine sv_callV (pc := 49) (ψ := ss_i) (As := [.int (1 : Int32)]) (rest := []) (c := 77) (sv_d k_Lt_goodClause 29 rfl) g_Lt_number w722 in_Lt_number se_Lt_number cf3 kd77 (ss_lt (by decide)) rfl (Nat.le_of_ble_eq_true rfl) (V_Lt_number E (d + 0) (1 : Int32) r3.2) (Nat.le_of_ble_eq_true rfl) rfl (fun r4 => ?_)
      show sv_V E _ _ _ 52 _ [.int r4.1] (ss_e r4.2) _
      refine sv_istore_n (pc := 52) (lv' := [(3, .int r4.1), (2, .int t0), (0, sv_r E 77), (1, .int x1)]) (sv_d k_Lt_goodClause 30 rfl) rfl (by decide) rfl ?_
      refine sv_iload_n (pc := 53) 0 (sv_d k_Lt_goodClause 31 rfl) rfl rfl ?_
      refine sv_if_ge (pc := 54) (tgt := 59) (sv_d k_Lt_goodClause 32 rfl) (by decide) ?_ ?_
      · refine sv_aload_n (pc := 59) 2 (sv_d k_Lt_goodClause 35 rfl) rfl rfl ?_
        refine sv_getf (pc := 60) 1 (sv_d k_Lt_goodClause 36 rfl) cf3 (by decide) w156 kd77 (ss_lt (by decide)) (lr_77_1 E _) ?_
        refine sv_bipush (pc := 63) (v := (20 : Int32)) (sv_d k_Lt_goodClause 37 rfl) (by decide) ?_
        refine sv_iload_n (pc := 65) 1 (sv_d k_Lt_goodClause 38 rfl) rfl rfl ?_
        refine sv_if_ge (pc := 66) (tgt := 73) (sv_d k_Lt_goodClause 39 rfl) (by decide) ?_ ?_
        · refine sv_bipush (pc := 73) (v := (10 : Int32)) (sv_d k_Lt_goodClause 42 rfl) (by decide) ?_
          refine sv_iload_n (pc := 75) 1 (sv_d k_Lt_goodClause 43 rfl) rfl rfl ?_
          refine sv_iadd (pc := 76) (sv_d k_Lt_goodClause 44 rfl) ?_
          refine sv_iadd (pc := 77) (sv_d k_Lt_goodClause 45 rfl) ?_
          refine sv_iload_n (pc := 78) 0 (sv_d k_Lt_goodClause 46 rfl) rfl rfl ?_
          refine ss_iast (pc := 79) (n := 40) (sv_d k_Lt_goodClause 47 rfl) kd79 (by decide) (ss_lt (by decide)) rfl (ss_lets (fun s5 e_s5 => ?_))
          refine sv_iconst (pc := 80) (v := (1 : Int32)) (sv_d k_Lt_goodClause 48 rfl) (by decide) ?_
          exact sv_ret (pc := 81) (sv_d k_Lt_goodClause 49 rfl) ⟨_, rfl, rfl⟩ rfl
        · refine sv_iload_n (pc := 69) 3 (sv_d k_Lt_goodClause 40 rfl) rfl rfl ?_
          refine sv_goto (pc := 70) (tgt := 77) (sv_d k_Lt_goodClause 41 rfl) (by decide) ?_
          refine sv_iadd (pc := 77) (sv_d k_Lt_goodClause 45 rfl) ?_
          refine sv_iload_n (pc := 78) 0 (sv_d k_Lt_goodClause 46 rfl) rfl rfl ?_
          refine ss_iast (pc := 79) (n := 40) (sv_d k_Lt_goodClause 47 rfl) kd79 (by decide) (ss_lt (by decide)) rfl (ss_lets (fun s6 e_s6 => ?_))
          refine sv_iconst (pc := 80) (v := (1 : Int32)) (sv_d k_Lt_goodClause 48 rfl) (by decide) ?_
          exact sv_ret (pc := 81) (sv_d k_Lt_goodClause 49 rfl) ⟨_, rfl, rfl⟩ rfl
      · refine sv_iconst (pc := 57) (v := (0 : Int32)) (sv_d k_Lt_goodClause 33 rfl) (by decide) ?_
        exact sv_ret (pc := 58) (sv_d k_Lt_goodClause 34 rfl) ⟨_, rfl, rfl⟩ rfl
    · refine sv_iconst (pc := 45) (v := (0 : Int32)) (sv_d k_Lt_goodClause 25 rfl) (by decide) ?_
      exact sv_ret (pc := 46) (sv_d k_Lt_goodClause 26 rfl) ⟨_, rfl, rfl⟩ rfl
def F_Lt_goodClause (s : sv_S) : Option (Int32 × sv_S) :=
  (F_Lt_takes (32 : Int32) s).bind fun r1 =>
  if r1.1 = 0 then
    some ((0 : Int32), r1.2)
  else
  (F_Lt_number (1 : Int32) r1.2).bind fun r2 =>
  if r2.1 = (1 : Int32) then
    (F_Lt_number (1 : Int32) r2.2).bind fun r7 =>
    F_Lt_goodClause_b31 r2.1 r7.1 r7.2
  else
  F_Lt_goodClause_b31 r2.1 (-1 : Int32) r2.2
theorem V_Lt_goodClause (E : sv_E) (d : Nat) (s : sv_S) : sv_V E m_Lt_goodClause (d + 1) ss_i 0 (lv_args 0 [sv_r E 77]) [] (ss_e s) (F_Lt_goodClause s) := by
  show sv_V E m_Lt_goodClause (d + 1) ss_i 0 [(0, sv_r E 77)] [] (ss_e s) _
  unfold F_Lt_goodClause
  refine sv_aload_n (pc := 0) 0 (sv_d k_Lt_goodClause 0 rfl) rfl rfl ?_
  refine sv_bipush (pc := 1) (v := (32 : Int32)) (sv_d k_Lt_goodClause 1 rfl) (by decide) ?_
  refine sv_callV (pc := 3) (ψ := ss_i) (As := [.int (32 : Int32)]) (rest := []) (c := 77) (sv_d k_Lt_goodClause 2 rfl) g_Lt_takes w718 in_Lt_takes se_Lt_takes cf3 kd77 (ss_lt (by decide)) rfl (Nat.le_of_ble_eq_true rfl) (V_Lt_takes E (d + 0) (32 : Int32) s) (Nat.le_of_ble_eq_true rfl) rfl (fun r1 => ?_)
  show sv_V E _ _ _ 6 _ [.int r1.1] (ss_e r1.2) _
  refine sv_if_ne (pc := 6) (tgt := 11) (sv_d k_Lt_goodClause 3 rfl) (by decide) ?_ ?_
  · refine sv_aload_n (pc := 11) 0 (sv_d k_Lt_goodClause 6 rfl) rfl rfl ?_
    refine sv_iconst (pc := 12) (v := (1 : Int32)) (sv_d k_Lt_goodClause 7 rfl) (by decide) ?_
    refine sv_callV (pc := 13) (ψ := ss_i) (As := [.int (1 : Int32)]) (rest := []) (c := 77) (sv_d k_Lt_goodClause 8 rfl) g_Lt_number w722 in_Lt_number se_Lt_number cf3 kd77 (ss_lt (by decide)) rfl (Nat.le_of_ble_eq_true rfl) (V_Lt_number E (d + 0) (1 : Int32) r1.2) (Nat.le_of_ble_eq_true rfl) rfl (fun r2 => ?_)
    show sv_V E _ _ _ 16 _ [.int r2.1] (ss_e r2.2) _
    refine sv_istore_n (pc := 16) (lv' := [(1, .int r2.1), (0, sv_r E 77)]) (sv_d k_Lt_goodClause 9 rfl) rfl (by decide) rfl ?_
    refine sv_iload_n (pc := 17) 0 (sv_d k_Lt_goodClause 10 rfl) rfl rfl ?_
    refine sv_iconst (pc := 18) (v := (1 : Int32)) (sv_d k_Lt_goodClause 11 rfl) (by decide) ?_
    refine sv_icmp_ne (pc := 19) (tgt := 30) (sv_d k_Lt_goodClause 12 rfl) (by decide) ?_ ?_
    · refine sv_iconst (pc := 30) (v := (-1 : Int32)) (sv_d k_Lt_goodClause 17 rfl) (by decide) ?_
      exact sv_loc [1, 0] rfl (V_Lt_goodClause_b31 E d r2.1 (-1 : Int32) r2.2)
    · refine sv_aload_n (pc := 22) 1 (sv_d k_Lt_goodClause 13 rfl) rfl rfl ?_
      refine sv_iconst (pc := 23) (v := (1 : Int32)) (sv_d k_Lt_goodClause 14 rfl) (by decide) ?_
      refine sv_callV (pc := 24) (ψ := ss_i) (As := [.int (1 : Int32)]) (rest := []) (c := 77) (sv_d k_Lt_goodClause 15 rfl) g_Lt_number w722 in_Lt_number se_Lt_number cf3 kd77 (ss_lt (by decide)) rfl (Nat.le_of_ble_eq_true rfl) (V_Lt_number E (d + 0) (1 : Int32) r2.2) (Nat.le_of_ble_eq_true rfl) rfl (fun r7 => ?_)
      show sv_V E _ _ _ 27 _ [.int r7.1] (ss_e r7.2) _
      refine sv_goto (pc := 27) (tgt := 31) (sv_d k_Lt_goodClause 16 rfl) (by decide) ?_
      exact sv_loc [1, 0] rfl (V_Lt_goodClause_b31 E d r2.1 r7.1 r7.2)
  · refine sv_iconst (pc := 9) (v := (0 : Int32)) (sv_d k_Lt_goodClause 4 rfl) (by decide) ?_
    exact sv_ret (pc := 10) (sv_d k_Lt_goodClause 5 rfl) ⟨_, rfl, rfl⟩ rfl
/-! Lt_mostClause -/
abbrev m_Lt_mostClause : sv_M := (yX3_mostClause, cX3_mostClause, 2, (some .boolean))
def t_Lt_mostClause : List (Nat × Instr × Nat) := [(0, .aload_n 0, 1), (1, .bipush 32, 2), (3, .invokevirtual 54, 3), (6, .ifCond .ne 5, 3), (9, .iconst 0, 1), (10, .ireturn, 1), (11, .aload_n 0, 1), (12, .iconst 1, 1), (13, .invokevirtual 126, 3), (16, .istore_n 1, 1), (17, .iload_n 1, 1), (18, .ifCond .lt 27, 3), (21, .aload_n 0, 1), (22, .bipush 32, 2), (24, .invokevirtual 54, 3), (27, .ifCond .eq 18, 3), (30, .aload_n 0, 1), (31, .bipush 10, 2), (33, .iload_n 1, 1), (34, .iadd, 1), (35, .invokevirtual 79, 3), (38, .ifCond .eq 7, 3), (41, .iconst 1, 1), (42, .goto 4, 3), (45, .iconst 0, 1), (46, .ireturn, 1)]
theorem k_Lt_mostClause : sv_tk m_Lt_mostClause.2.1 t_Lt_mostClause := by decide +kernel
theorem g_Lt_mostClause : sv_G m_Lt_mostClause 0 := ⟨by decide +kernel, sv_in 729 (by decide +kernel) rfl, sv_in 93 (by decide +kernel) rfl, ⟨by decide, by decide⟩, by decide +kernel, by decide⟩
theorem in_Lt_mostClause : Cond.instanceMethod m_Lt_mostClause.1 ∈ sv_T := sv_in 728 (by decide +kernel) rfl
theorem se_Lt_mostClause : Cond.selects m_Lt_mostClause.1.cls m_Lt_mostClause.1 m_Lt_mostClause.1 ∈ sv_T := sv_in 8 (by decide +kernel) rfl
def F_Lt_mostClause (s : sv_S) : Option (Int32 × sv_S) :=
  (F_Lt_takes (32 : Int32) s).bind fun r1 =>
  if r1.1 = 0 then
    some ((0 : Int32), r1.2)
  else
  (F_Lt_number (1 : Int32) r1.2).bind fun r2 =>
  if r2.1 < 0 then
    some ((0 : Int32), r2.2)
  else
  (F_Lt_takes (32 : Int32) r2.2).bind fun r3 =>
  if r3.1 = 0 then
    some ((0 : Int32), r3.2)
  else
  (F_Lt_numberInto ((10 : Int32) + r2.1) r3.2).bind fun r4 =>
  if r4.1 = 0 then
    some ((0 : Int32), r4.2)
  else
  some ((1 : Int32), r4.2)
theorem V_Lt_mostClause (E : sv_E) (d : Nat) (s : sv_S) : sv_V E m_Lt_mostClause (d + 2) ss_i 0 (lv_args 0 [sv_r E 77]) [] (ss_e s) (F_Lt_mostClause s) := by
  show sv_V E m_Lt_mostClause (d + 2) ss_i 0 [(0, sv_r E 77)] [] (ss_e s) _
  unfold F_Lt_mostClause
  refine sv_aload_n (pc := 0) 0 (sv_d k_Lt_mostClause 0 rfl) rfl rfl ?_
  refine sv_bipush (pc := 1) (v := (32 : Int32)) (sv_d k_Lt_mostClause 1 rfl) (by decide) ?_
  refine sv_callV (pc := 3) (ψ := ss_i) (As := [.int (32 : Int32)]) (rest := []) (c := 77) (sv_d k_Lt_mostClause 2 rfl) g_Lt_takes w718 in_Lt_takes se_Lt_takes cf3 kd77 (ss_lt (by decide)) rfl (Nat.le_of_ble_eq_true rfl) (V_Lt_takes E (d + 1) (32 : Int32) s) (Nat.le_of_ble_eq_true rfl) rfl (fun r1 => ?_)
  show sv_V E _ _ _ 6 _ [.int r1.1] (ss_e r1.2) _
  refine sv_if_ne (pc := 6) (tgt := 11) (sv_d k_Lt_mostClause 3 rfl) (by decide) ?_ ?_
  · refine sv_aload_n (pc := 11) 0 (sv_d k_Lt_mostClause 6 rfl) rfl rfl ?_
    refine sv_iconst (pc := 12) (v := (1 : Int32)) (sv_d k_Lt_mostClause 7 rfl) (by decide) ?_
    refine sv_callV (pc := 13) (ψ := ss_i) (As := [.int (1 : Int32)]) (rest := []) (c := 77) (sv_d k_Lt_mostClause 8 rfl) g_Lt_number w722 in_Lt_number se_Lt_number cf3 kd77 (ss_lt (by decide)) rfl (Nat.le_of_ble_eq_true rfl) (V_Lt_number E (d + 1) (1 : Int32) r1.2) (Nat.le_of_ble_eq_true rfl) rfl (fun r2 => ?_)
    show sv_V E _ _ _ 16 _ [.int r2.1] (ss_e r2.2) _
    refine sv_istore_n (pc := 16) (lv' := [(1, .int r2.1), (0, sv_r E 77)]) (sv_d k_Lt_mostClause 9 rfl) rfl (by decide) rfl ?_
    refine sv_iload_n (pc := 17) 0 (sv_d k_Lt_mostClause 10 rfl) rfl rfl ?_
    refine sv_if_lt (pc := 18) (tgt := 45) (sv_d k_Lt_mostClause 11 rfl) (by decide) ?_ ?_
    · refine sv_iconst (pc := 45) (v := (0 : Int32)) (sv_d k_Lt_mostClause 24 rfl) (by decide) ?_
      exact sv_ret (pc := 46) (sv_d k_Lt_mostClause 25 rfl) ⟨_, rfl, rfl⟩ rfl
    · refine sv_aload_n (pc := 21) 1 (sv_d k_Lt_mostClause 12 rfl) rfl rfl ?_
      refine sv_bipush (pc := 22) (v := (32 : Int32)) (sv_d k_Lt_mostClause 13 rfl) (by decide) ?_
      refine sv_callV (pc := 24) (ψ := ss_i) (As := [.int (32 : Int32)]) (rest := []) (c := 77) (sv_d k_Lt_mostClause 14 rfl) g_Lt_takes w718 in_Lt_takes se_Lt_takes cf3 kd77 (ss_lt (by decide)) rfl (Nat.le_of_ble_eq_true rfl) (V_Lt_takes E (d + 1) (32 : Int32) r2.2) (Nat.le_of_ble_eq_true rfl) rfl (fun r3 => ?_)
      show sv_V E _ _ _ 27 _ [.int r3.1] (ss_e r3.2) _
      refine sv_if_eq (pc := 27) (tgt := 45) (sv_d k_Lt_mostClause 15 rfl) (by decide) ?_ ?_
      · refine sv_iconst (pc := 45) (v := (0 : Int32)) (sv_d k_Lt_mostClause 24 rfl) (by decide) ?_
        exact sv_ret (pc := 46) (sv_d k_Lt_mostClause 25 rfl) ⟨_, rfl, rfl⟩ rfl
      · refine sv_aload_n (pc := 30) 1 (sv_d k_Lt_mostClause 16 rfl) rfl rfl ?_
        refine sv_bipush (pc := 31) (v := (10 : Int32)) (sv_d k_Lt_mostClause 17 rfl) (by decide) ?_
        refine sv_iload_n (pc := 33) 0 (sv_d k_Lt_mostClause 18 rfl) rfl rfl ?_
        refine sv_iadd (pc := 34) (sv_d k_Lt_mostClause 19 rfl) ?_
        refine sv_callV (pc := 35) (ψ := ss_i) (As := [.int ((10 : Int32) + r2.1)]) (rest := []) (c := 77) (sv_d k_Lt_mostClause 20 rfl) g_Lt_numberInto w730 in_Lt_numberInto se_Lt_numberInto cf3 kd77 (ss_lt (by decide)) rfl (Nat.le_of_ble_eq_true rfl) (V_Lt_numberInto E (d + 0) ((10 : Int32) + r2.1) r3.2) (Nat.le_of_ble_eq_true rfl) rfl (fun r4 => ?_)
        show sv_V E _ _ _ 38 _ [.int r4.1] (ss_e r4.2) _
        refine sv_if_eq (pc := 38) (tgt := 45) (sv_d k_Lt_mostClause 21 rfl) (by decide) ?_ ?_
        · refine sv_iconst (pc := 45) (v := (0 : Int32)) (sv_d k_Lt_mostClause 24 rfl) (by decide) ?_
          exact sv_ret (pc := 46) (sv_d k_Lt_mostClause 25 rfl) ⟨_, rfl, rfl⟩ rfl
        · refine sv_iconst (pc := 41) (v := (1 : Int32)) (sv_d k_Lt_mostClause 22 rfl) (by decide) ?_
          refine sv_goto (pc := 42) (tgt := 46) (sv_d k_Lt_mostClause 23 rfl) (by decide) ?_
          exact sv_ret (pc := 46) (sv_d k_Lt_mostClause 25 rfl) ⟨_, rfl, rfl⟩ rfl
  · refine sv_iconst (pc := 9) (v := (0 : Int32)) (sv_d k_Lt_mostClause 4 rfl) (by decide) ?_
    exact sv_ret (pc := 10) (sv_d k_Lt_mostClause 5 rfl) ⟨_, rfl, rfl⟩ rfl
/-! Lt_emit -/
abbrev m_Lt_emit : sv_M := (yX3_emit, cX3_emit, 3, none)
def t_Lt_emit : List (Nat × Instr × Nat) := [(0, .aload_n 0, 1), (1, .getfield 58, 3), (4, .aload_n 0, 1), (5, .getfield 19, 3), (8, .arraylength, 1), (9, .if_icmp .ge 26, 3), (12, .aload_n 0, 1), (13, .getfield 19, 3), (16, .aload_n 0, 1), (17, .dup, 1), (18, .getfield 58, 3), (21, .dup_x1, 1), (22, .iconst 1, 1), (23, .iadd, 1), (24, .putfield 58, 3), (27, .iload_n 1, 1), (28, .sipush 10000, 3), (31, .imul, 1), (32, .iload_n 2, 1), (33, .iadd, 1), (34, .iastore, 1), (35, .return_, 1)]
theorem k_Lt_emit : sv_tk m_Lt_emit.2.1 t_Lt_emit := by decide +kernel
theorem g_Lt_emit : sv_G m_Lt_emit 2 := ⟨by decide +kernel, sv_in 749 (by decide +kernel) rfl, sv_in 93 (by decide +kernel) rfl, ⟨by decide, by decide⟩, by decide +kernel, by decide⟩
theorem in_Lt_emit : Cond.instanceMethod m_Lt_emit.1 ∈ sv_T := sv_in 748 (by decide +kernel) rfl
theorem se_Lt_emit : Cond.selects m_Lt_emit.1.cls m_Lt_emit.1 m_Lt_emit.1 ∈ sv_T := sv_in 13 (by decide +kernel) rfl
def F_Lt_emit (x1 : Int32) (x2 : Int32) (s : sv_S) : Option (sv_S) :=
  if (140 : Int32) ≤ (s.1 77 5) then
    some s
  else
  ss_let (ss_setI s 77 5 ((s.1 77 5) + (1 : Int32))) fun s1 =>
  if sv_ib (s.1 77 5) 140 = true then
    ss_let (ss_setI s1 80 (s.1 77 5).toNatClampNeg ((x1 * (10000 : Int32)) + x2)) fun s2 =>
    some s2
  else none
theorem V_Lt_emit (E : sv_E) (d : Nat) (x1 : Int32) (x2 : Int32) (s : sv_S) : sv_V E m_Lt_emit (d + 0) ss_v 0 (lv_args 0 [sv_r E 77, .int x1, .int x2]) [] (ss_e s) (F_Lt_emit x1 x2 s) := by
  show sv_V E m_Lt_emit (d + 0) ss_v 0 [(0, sv_r E 77), (1, .int x1), (2, .int x2)] [] (ss_e s) _
  unfold F_Lt_emit
  refine sv_aload_n (pc := 0) 0 (sv_d k_Lt_emit 0 rfl) rfl rfl ?_
  refine sv_getf (pc := 1) 5 (sv_d k_Lt_emit 1 rfl) cf3 (by decide) w163 kd77 (ss_lt (by decide)) rfl ?_
  refine sv_aload_n (pc := 4) 0 (sv_d k_Lt_emit 2 rfl) rfl rfl ?_
  refine sv_getf (pc := 5) 2 (sv_d k_Lt_emit 3 rfl) cf3 (by decide) w158 kd77 (ss_lt (by decide)) (lr_77_2 E _) ?_
  refine ss_alen (pc := 8) (v := (140 : Int32)) (sv_d k_Lt_emit 4 rfl) kd80 (by decide) (by decide) (ss_lt (by decide)) rfl ?_
  refine sv_icmp_ge (pc := 9) (tgt := 35) (sv_d k_Lt_emit 5 rfl) (by decide) ?_ ?_
  · exact sv_retv (pc := 35) (sv_d k_Lt_emit 21 rfl) rfl rfl
  · refine sv_aload_n (pc := 12) 0 (sv_d k_Lt_emit 6 rfl) rfl rfl ?_
    refine sv_getf (pc := 13) 2 (sv_d k_Lt_emit 7 rfl) cf3 (by decide) w158 kd77 (ss_lt (by decide)) (lr_77_2 E _) ?_
    refine sv_aload_n (pc := 16) 0 (sv_d k_Lt_emit 8 rfl) rfl rfl ?_
    refine sv_dup (pc := 17) (sv_d k_Lt_emit 9 rfl) rfl ?_
    refine sv_getf (pc := 18) 5 (sv_d k_Lt_emit 10 rfl) cf3 (by decide) w163 kd77 (ss_lt (by decide)) rfl ?_
    refine sv_dup_x1 (pc := 21) (sv_d k_Lt_emit 11 rfl) rfl rfl ?_
    refine sv_iconst (pc := 22) (v := (1 : Int32)) (sv_d k_Lt_emit 12 rfl) (by decide) ?_
    refine sv_iadd (pc := 23) (sv_d k_Lt_emit 13 rfl) ?_
    refine ss_putI (pc := 24) 5 (sv_d k_Lt_emit 14 rfl) cf3 (by decide) rfl w163 kd77 (ss_lt (by decide)) rfl rfl (fun _ => rfl) (ss_lets (fun s1 e_s1 => ?_))
    refine sv_iload_n (pc := 27) 1 (sv_d k_Lt_emit 15 rfl) rfl rfl ?_
    refine sv_sipush (pc := 28) (v := (10000 : Int32)) (sv_d k_Lt_emit 16 rfl) (by decide) ?_
    refine sv_imul (pc := 31) (sv_d k_Lt_emit 17 rfl) ?_
    refine sv_iload_n (pc := 32) 2 (sv_d k_Lt_emit 18 rfl) rfl rfl ?_
    refine sv_iadd (pc := 33) (sv_d k_Lt_emit 19 rfl) ?_
    refine ss_iast (pc := 34) (n := 140) (sv_d k_Lt_emit 20 rfl) kd80 (by decide) (ss_lt (by decide)) rfl (ss_lets (fun s2 e_s2 => ?_))
    exact sv_retv (pc := 35) (sv_d k_Lt_emit 21 rfl) rfl rfl
/-! Lt_test -/
abbrev m_Lt_test : sv_M := (yX3_test, cX3_test, 3, (some .boolean))
def t_Lt_test : List (Nat × Instr × Nat) := [(0, .iconst (-1), 1), (1, .istore_n 1, 1), (2, .aload_n 0, 1), (3, .bipush 103, 2), (5, .invokevirtual 54, 3), (8, .ifCond .eq 21, 3), (11, .aload_n 0, 1), (12, .bipush 61, 2), (14, .invokevirtual 54, 3), (17, .ifCond .eq 7, 3), (20, .iconst 0, 1), (21, .goto 4, 3), (24, .iconst (-1), 1), (25, .istore_n 1, 1), (26, .goto 174, 3), (29, .aload_n 0, 1), (30, .bipush 99, 2), (32, .invokevirtual 54, 3), (35, .ifCond .eq 21, 3), (38, .aload_n 0, 1), (39, .bipush 61, 2), (41, .invokevirtual 54, 3), (44, .ifCond .eq 7, 3), (47, .iconst 1, 1), (48, .goto 4, 3), (51, .iconst (-1), 1), (52, .istore_n 1, 1), (53, .goto 147, 3), (56, .aload_n 0, 1), (57, .bipush 111, 2), (59, .invokevirtual 54, 3), (62, .ifCond .eq 21, 3), (65, .aload_n 0, 1), (66, .bipush 61, 2), (68, .invokevirtual 54, 3), (71, .ifCond .eq 7, 3), (74, .iconst 2, 1), (75, .goto 4, 3), (78, .iconst (-1), 1), (79, .istore_n 1, 1), (80, .goto 120, 3), (83, .aload_n 0, 1), (84, .bipush 116, 2), (86, .invokevirtual 54, 3), (89, .ifCond .eq 34, 3), (92, .aload_n 0, 1), (93, .bipush 60, 2), (95, .invokevirtual 54, 3), (98, .ifCond .eq 7, 3), (101, .iconst 3, 1), (102, .goto 17, 3), (105, .aload_n 0, 1), (106, .bipush 62, 2), (108, .invokevirtual 54, 3), (111, .ifCond .eq 7, 3), (114, .iconst 4, 1), (115, .goto 4, 3), (118, .iconst (-1), 1), (119, .istore_n 1, 1), (120, .goto 80, 3), (123, .aload_n 0, 1), (124, .bipush 100, 2), (126, .invokevirtual 54, 3), (129, .ifCond .eq 35, 3), (132, .aload_n 0, 1), (133, .bipush 60, 2), (135, .invokevirtual 54, 3), (138, .ifCond .eq 7, 3), (141, .iconst 5, 1), (142, .goto 18, 3), (145, .aload_n 0, 1), (146, .bipush 62, 2), (148, .invokevirtual 54, 3), (151, .ifCond .eq 8, 3), (154, .bipush 6, 2), (156, .goto 4, 3), (159, .iconst (-1), 1), (160, .istore_n 1, 1), (161, .goto 39, 3), (164, .aload_n 0, 1), (165, .bipush 98, 2), (167, .invokevirtual 54, 3), (170, .ifCond .eq 12, 3), (173, .aload_n 0, 1), (174, .bipush 7, 2), (176, .iconst 0, 1), (177, .invokevirtual 135, 3), (180, .iconst 1, 1), (181, .ireturn, 1), (182, .aload_n 0, 1), (183, .bipush 120, 2), (185, .invokevirtual 54, 3), (188, .ifCond .eq 12, 3), (191, .aload_n 0, 1), (192, .bipush 8, 2), (194, .iconst 0, 1), (195, .invokevirtual 135, 3), (198, .iconst 1, 1), (199, .ireturn, 1), (200, .iload_n 1, 1), (201, .ifCond .ge 7, 3), (204, .iconst (-1), 1), (205, .goto 8, 3), (208, .aload_n 0, 1), (209, .iconst 4, 1), (210, .invokevirtual 126, 3), (213, .istore_n 2, 1), (214, .iload_n 2, 1), (215, .ifCond .ge 5, 3), (218, .iconst 0, 1), (219, .ireturn, 1), (220, .aload_n 0, 1), (221, .iload_n 1, 1), (222, .iload_n 2, 1), (223, .invokevirtual 135, 3), (226, .iconst 1, 1), (227, .ireturn, 1)]
theorem k_Lt_test : sv_tk m_Lt_test.2.1 t_Lt_test := by decide +kernel
theorem g_Lt_test : sv_G m_Lt_test 0 := ⟨by decide +kernel, sv_in 753 (by decide +kernel) rfl, sv_in 93 (by decide +kernel) rfl, ⟨by decide, by decide⟩, by decide +kernel, by decide⟩
theorem in_Lt_test : Cond.instanceMethod m_Lt_test.1 ∈ sv_T := sv_in 752 (by decide +kernel) rfl
theorem se_Lt_test : Cond.selects m_Lt_test.1.cls m_Lt_test.1 m_Lt_test.1 ∈ sv_T := sv_in 14 (by decide +kernel) rfl
def F_Lt_test_b213 (x1 : Int32) (t0 : Int32) (s : sv_S) : Option (Int32 × sv_S) :=
  if 0 ≤ t0 then
    (F_Lt_emit x1 t0 s).bind fun r9 =>
    some ((1 : Int32), r9)
  else
  some ((0 : Int32), s)
theorem V_Lt_test_b213 (E : sv_E) (d : Nat) (x1 : Int32) (t0 : Int32) (s : sv_S) : sv_V E m_Lt_test (d + 1) ss_i 213 [(0, sv_r E 77), (1, .int x1)] [.int t0] (ss_e s) (F_Lt_test_b213 x1 t0 s) := by
  unfold F_Lt_test_b213
  refine sv_istore_n (pc := 213) (lv' := [(2, .int t0), (0, sv_r E 77), (1, .int x1)]) (sv_d k_Lt_test 106 rfl) rfl (by decide) rfl ?_
  refine sv_iload_n (pc := 214) 0 (sv_d k_Lt_test 107 rfl) rfl rfl ?_
  refine sv_if_ge (pc := 215) (tgt := 220) (sv_d k_Lt_test 108 rfl) (by decide) ?_ ?_
  · refine sv_aload_n (pc := 220) 1 (sv_d k_Lt_test 111 rfl) rfl rfl ?_
    refine sv_iload_n (pc := 221) 2 (sv_d k_Lt_test 112 rfl) rfl rfl ?_
    refine sv_iload_n (pc := 222) 0 (sv_d k_Lt_test 113 rfl) rfl rfl ?_
    refine sv_callV (pc := 223) (ψ := ss_v) (As := [.int x1, .int t0]) (rest := []) (c := 77) (sv_d k_Lt_test 114 rfl) g_Lt_emit w746 in_Lt_emit se_Lt_emit cf3 kd77 (ss_lt (by decide)) rfl (Nat.le_of_ble_eq_true rfl) (V_Lt_emit E (d + 0) x1 t0 s) (Nat.le_of_ble_eq_true rfl) rfl (fun r9 => ?_)
    show sv_V E _ _ _ 226 _ [] (ss_e r9) _
    refine sv_iconst (pc := 226) (v := (1 : Int32)) (sv_d k_Lt_test 115 rfl) (by decide) ?_
    exact sv_ret (pc := 227) (sv_d k_Lt_test 116 rfl) ⟨_, rfl, rfl⟩ rfl
  · refine sv_iconst (pc := 218) (v := (0 : Int32)) (sv_d k_Lt_test 109 rfl) (by decide) ?_
    exact sv_ret (pc := 219) (sv_d k_Lt_test 110 rfl) ⟨_, rfl, rfl⟩ rfl
def F_Lt_test_b200 (x1 : Int32) (s : sv_S) : Option (Int32 × sv_S) :=
  if 0 ≤ x1 then
    (F_Lt_number (4 : Int32) s).bind fun r8 =>
    F_Lt_test_b213 x1 r8.1 r8.2
  else
  F_Lt_test_b213 x1 (-1 : Int32) s
theorem V_Lt_test_b200 (E : sv_E) (d : Nat) (x1 : Int32) (s : sv_S) : sv_V E m_Lt_test (d + 1) ss_i 200 [(0, sv_r E 77), (1, .int x1)] [] (ss_e s) (F_Lt_test_b200 x1 s) := by
  unfold F_Lt_test_b200
  refine sv_iload_n (pc := 200) 1 (sv_d k_Lt_test 99 rfl) rfl rfl ?_
  refine sv_if_ge (pc := 201) (tgt := 208) (sv_d k_Lt_test 100 rfl) (by decide) ?_ ?_
  · refine sv_aload_n (pc := 208) 0 (sv_d k_Lt_test 103 rfl) rfl rfl ?_
    refine sv_iconst (pc := 209) (v := (4 : Int32)) (sv_d k_Lt_test 104 rfl) (by decide) ?_
    refine sv_callV (pc := 210) (ψ := ss_i) (As := [.int (4 : Int32)]) (rest := []) (c := 77) (sv_d k_Lt_test 105 rfl) g_Lt_number w722 in_Lt_number se_Lt_number cf3 kd77 (ss_lt (by decide)) rfl (Nat.le_of_ble_eq_true rfl) (V_Lt_number E (d + 0) (4 : Int32) s) (Nat.le_of_ble_eq_true rfl) rfl (fun r8 => ?_)
    show sv_V E _ _ _ 213 _ [.int r8.1] (ss_e r8.2) _
    exact sv_loc [0, 1] rfl (V_Lt_test_b213 E d x1 r8.1 r8.2)
  · refine sv_iconst (pc := 204) (v := (-1 : Int32)) (sv_d k_Lt_test 101 rfl) (by decide) ?_
    refine sv_goto (pc := 205) (tgt := 213) (sv_d k_Lt_test 102 rfl) (by decide) ?_
    exact sv_loc [0, 1] rfl (V_Lt_test_b213 E d x1 (-1 : Int32) s)
def F_Lt_test_b160 (t0 : Int32) (s : sv_S) : Option (Int32 × sv_S) :=
  F_Lt_test_b200 t0 s
theorem V_Lt_test_b160 (E : sv_E) (d : Nat) (t0 : Int32) (s : sv_S) : sv_V E m_Lt_test (d + 1) ss_i 160 [(0, sv_r E 77)] [.int t0] (ss_e s) (F_Lt_test_b160 t0 s) := by
  unfold F_Lt_test_b160
  refine sv_istore_n (pc := 160) (lv' := [(1, .int t0), (0, sv_r E 77)]) (sv_d k_Lt_test 77 rfl) rfl (by decide) rfl ?_
  refine sv_goto (pc := 161) (tgt := 200) (sv_d k_Lt_test 78 rfl) (by decide) ?_
  exact sv_loc [1, 0] rfl (V_Lt_test_b200 E d t0 s)
def F_Lt_test_b119 (t0 : Int32) (s : sv_S) : Option (Int32 × sv_S) :=
  F_Lt_test_b200 t0 s
theorem V_Lt_test_b119 (E : sv_E) (d : Nat) (t0 : Int32) (s : sv_S) : sv_V E m_Lt_test (d + 1) ss_i 119 [(0, sv_r E 77)] [.int t0] (ss_e s) (F_Lt_test_b119 t0 s) := by
  unfold F_Lt_test_b119
  refine sv_istore_n (pc := 119) (lv' := [(1, .int t0), (0, sv_r E 77)]) (sv_d k_Lt_test 58 rfl) rfl (by decide) rfl ?_
  refine sv_goto (pc := 120) (tgt := 200) (sv_d k_Lt_test 59 rfl) (by decide) ?_
  exact sv_loc [1, 0] rfl (V_Lt_test_b200 E d t0 s)
def F_Lt_test_b79 (t0 : Int32) (s : sv_S) : Option (Int32 × sv_S) :=
  F_Lt_test_b200 t0 s
theorem V_Lt_test_b79 (E : sv_E) (d : Nat) (t0 : Int32) (s : sv_S) : sv_V E m_Lt_test (d + 1) ss_i 79 [(0, sv_r E 77)] [.int t0] (ss_e s) (F_Lt_test_b79 t0 s) := by
  unfold F_Lt_test_b79
  refine sv_istore_n (pc := 79) (lv' := [(1, .int t0), (0, sv_r E 77)]) (sv_d k_Lt_test 39 rfl) rfl (by decide) rfl ?_
  refine sv_goto (pc := 80) (tgt := 200) (sv_d k_Lt_test 40 rfl) (by decide) ?_
  exact sv_loc [1, 0] rfl (V_Lt_test_b200 E d t0 s)
def F_Lt_test_b52 (t0 : Int32) (s : sv_S) : Option (Int32 × sv_S) :=
  F_Lt_test_b200 t0 s
theorem V_Lt_test_b52 (E : sv_E) (d : Nat) (t0 : Int32) (s : sv_S) : sv_V E m_Lt_test (d + 1) ss_i 52 [(0, sv_r E 77)] [.int t0] (ss_e s) (F_Lt_test_b52 t0 s) := by
  unfold F_Lt_test_b52
  refine sv_istore_n (pc := 52) (lv' := [(1, .int t0), (0, sv_r E 77)]) (sv_d k_Lt_test 26 rfl) rfl (by decide) rfl ?_
  refine sv_goto (pc := 53) (tgt := 200) (sv_d k_Lt_test 27 rfl) (by decide) ?_
  exact sv_loc [1, 0] rfl (V_Lt_test_b200 E d t0 s)
def F_Lt_test_b25 (t0 : Int32) (s : sv_S) : Option (Int32 × sv_S) :=
  F_Lt_test_b200 t0 s
theorem V_Lt_test_b25 (E : sv_E) (d : Nat) (t0 : Int32) (s : sv_S) : sv_V E m_Lt_test (d + 1) ss_i 25 [(0, sv_r E 77)] [.int t0] (ss_e s) (F_Lt_test_b25 t0 s) := by
  unfold F_Lt_test_b25
  refine sv_istore_n (pc := 25) (lv' := [(1, .int t0), (0, sv_r E 77)]) (sv_d k_Lt_test 13 rfl) rfl (by decide) rfl ?_
  refine sv_goto (pc := 26) (tgt := 200) (sv_d k_Lt_test 14 rfl) (by decide) ?_
  exact sv_loc [1, 0] rfl (V_Lt_test_b200 E d t0 s)
def F_Lt_test (s : sv_S) : Option (Int32 × sv_S) :=
  (F_Lt_takes (103 : Int32) s).bind fun r1 =>
  if r1.1 = 0 then
    (F_Lt_takes (99 : Int32) r1.2).bind fun r2 =>
    if r2.1 = 0 then
      (F_Lt_takes (111 : Int32) r2.2).bind fun r3 =>
      if r3.1 = 0 then
        (F_Lt_takes (116 : Int32) r3.2).bind fun r4 =>
        if r4.1 = 0 then
          (F_Lt_takes (100 : Int32) r4.2).bind fun r5 =>
          if r5.1 = 0 then
            (F_Lt_takes (98 : Int32) r5.2).bind fun r6 =>
            if r6.1 = 0 then
              (F_Lt_takes (120 : Int32) r6.2).bind fun r7 =>
              if r7.1 = 0 then
                F_Lt_test_b200 (-1 : Int32) r7.2
              else
              (F_Lt_emit (8 : Int32) (0 : Int32) r7.2).bind fun r10 =>
              some ((1 : Int32), r10)
            else
            (F_Lt_emit (7 : Int32) (0 : Int32) r6.2).bind fun r11 =>
            some ((1 : Int32), r11)
          else
          (F_Lt_takes (60 : Int32) r5.2).bind fun r12 =>
          if r12.1 = 0 then
            (F_Lt_takes (62 : Int32) r12.2).bind fun r13 =>
            if r13.1 = 0 then
              F_Lt_test_b160 (-1 : Int32) r13.2
            else
            F_Lt_test_b160 (6 : Int32) r13.2
          else
          F_Lt_test_b160 (5 : Int32) r12.2
        else
        (F_Lt_takes (60 : Int32) r4.2).bind fun r14 =>
        if r14.1 = 0 then
          (F_Lt_takes (62 : Int32) r14.2).bind fun r15 =>
          if r15.1 = 0 then
            F_Lt_test_b119 (-1 : Int32) r15.2
          else
          F_Lt_test_b119 (4 : Int32) r15.2
        else
        F_Lt_test_b119 (3 : Int32) r14.2
      else
      (F_Lt_takes (61 : Int32) r3.2).bind fun r16 =>
      if r16.1 = 0 then
        F_Lt_test_b79 (-1 : Int32) r16.2
      else
      F_Lt_test_b79 (2 : Int32) r16.2
    else
    (F_Lt_takes (61 : Int32) r2.2).bind fun r17 =>
    if r17.1 = 0 then
      F_Lt_test_b52 (-1 : Int32) r17.2
    else
    F_Lt_test_b52 (1 : Int32) r17.2
  else
  (F_Lt_takes (61 : Int32) r1.2).bind fun r18 =>
  if r18.1 = 0 then
    F_Lt_test_b25 (-1 : Int32) r18.2
  else
  F_Lt_test_b25 (0 : Int32) r18.2
theorem V_Lt_test (E : sv_E) (d : Nat) (s : sv_S) : sv_V E m_Lt_test (d + 1) ss_i 0 (lv_args 0 [sv_r E 77]) [] (ss_e s) (F_Lt_test s) := by
  show sv_V E m_Lt_test (d + 1) ss_i 0 [(0, sv_r E 77)] [] (ss_e s) _
  unfold F_Lt_test
  refine sv_iconst (pc := 0) (v := (-1 : Int32)) (sv_d k_Lt_test 0 rfl) (by decide) ?_
  refine sv_istore_n (pc := 1) (lv' := [(1, .int (-1 : Int32)), (0, sv_r E 77)]) (sv_d k_Lt_test 1 rfl) rfl (by decide) rfl ?_
  refine sv_aload_n (pc := 2) 1 (sv_d k_Lt_test 2 rfl) rfl rfl ?_
  refine sv_bipush (pc := 3) (v := (103 : Int32)) (sv_d k_Lt_test 3 rfl) (by decide) ?_
  refine sv_callV (pc := 5) (ψ := ss_i) (As := [.int (103 : Int32)]) (rest := []) (c := 77) (sv_d k_Lt_test 4 rfl) g_Lt_takes w718 in_Lt_takes se_Lt_takes cf3 kd77 (ss_lt (by decide)) rfl (Nat.le_of_ble_eq_true rfl) (V_Lt_takes E (d + 0) (103 : Int32) s) (Nat.le_of_ble_eq_true rfl) rfl (fun r1 => ?_)
  show sv_V E _ _ _ 8 _ [.int r1.1] (ss_e r1.2) _
  refine sv_if_eq (pc := 8) (tgt := 29) (sv_d k_Lt_test 5 rfl) (by decide) ?_ ?_
  · refine sv_aload_n (pc := 29) 1 (sv_d k_Lt_test 15 rfl) rfl rfl ?_
    refine sv_bipush (pc := 30) (v := (99 : Int32)) (sv_d k_Lt_test 16 rfl) (by decide) ?_
    refine sv_callV (pc := 32) (ψ := ss_i) (As := [.int (99 : Int32)]) (rest := []) (c := 77) (sv_d k_Lt_test 17 rfl) g_Lt_takes w718 in_Lt_takes se_Lt_takes cf3 kd77 (ss_lt (by decide)) rfl (Nat.le_of_ble_eq_true rfl) (V_Lt_takes E (d + 0) (99 : Int32) r1.2) (Nat.le_of_ble_eq_true rfl) rfl (fun r2 => ?_)
    show sv_V E _ _ _ 35 _ [.int r2.1] (ss_e r2.2) _
    refine sv_if_eq (pc := 35) (tgt := 56) (sv_d k_Lt_test 18 rfl) (by decide) ?_ ?_
    · refine sv_aload_n (pc := 56) 1 (sv_d k_Lt_test 28 rfl) rfl rfl ?_
      refine sv_bipush (pc := 57) (v := (111 : Int32)) (sv_d k_Lt_test 29 rfl) (by decide) ?_
      refine sv_callV (pc := 59) (ψ := ss_i) (As := [.int (111 : Int32)]) (rest := []) (c := 77) (sv_d k_Lt_test 30 rfl) g_Lt_takes w718 in_Lt_takes se_Lt_takes cf3 kd77 (ss_lt (by decide)) rfl (Nat.le_of_ble_eq_true rfl) (V_Lt_takes E (d + 0) (111 : Int32) r2.2) (Nat.le_of_ble_eq_true rfl) rfl (fun r3 => ?_)
      show sv_V E _ _ _ 62 _ [.int r3.1] (ss_e r3.2) _
      refine sv_if_eq (pc := 62) (tgt := 83) (sv_d k_Lt_test 31 rfl) (by decide) ?_ ?_
      · refine sv_aload_n (pc := 83) 1 (sv_d k_Lt_test 41 rfl) rfl rfl ?_
        refine sv_bipush (pc := 84) (v := (116 : Int32)) (sv_d k_Lt_test 42 rfl) (by decide) ?_
        refine sv_callV (pc := 86) (ψ := ss_i) (As := [.int (116 : Int32)]) (rest := []) (c := 77) (sv_d k_Lt_test 43 rfl) g_Lt_takes w718 in_Lt_takes se_Lt_takes cf3 kd77 (ss_lt (by decide)) rfl (Nat.le_of_ble_eq_true rfl) (V_Lt_takes E (d + 0) (116 : Int32) r3.2) (Nat.le_of_ble_eq_true rfl) rfl (fun r4 => ?_)
        show sv_V E _ _ _ 89 _ [.int r4.1] (ss_e r4.2) _
        refine sv_if_eq (pc := 89) (tgt := 123) (sv_d k_Lt_test 44 rfl) (by decide) ?_ ?_
        · refine sv_aload_n (pc := 123) 1 (sv_d k_Lt_test 60 rfl) rfl rfl ?_
          refine sv_bipush (pc := 124) (v := (100 : Int32)) (sv_d k_Lt_test 61 rfl) (by decide) ?_
          refine sv_callV (pc := 126) (ψ := ss_i) (As := [.int (100 : Int32)]) (rest := []) (c := 77) (sv_d k_Lt_test 62 rfl) g_Lt_takes w718 in_Lt_takes se_Lt_takes cf3 kd77 (ss_lt (by decide)) rfl (Nat.le_of_ble_eq_true rfl) (V_Lt_takes E (d + 0) (100 : Int32) r4.2) (Nat.le_of_ble_eq_true rfl) rfl (fun r5 => ?_)
          show sv_V E _ _ _ 129 _ [.int r5.1] (ss_e r5.2) _
          refine sv_if_eq (pc := 129) (tgt := 164) (sv_d k_Lt_test 63 rfl) (by decide) ?_ ?_
          · refine sv_aload_n (pc := 164) 1 (sv_d k_Lt_test 79 rfl) rfl rfl ?_
            refine sv_bipush (pc := 165) (v := (98 : Int32)) (sv_d k_Lt_test 80 rfl) (by decide) ?_
            refine sv_callV (pc := 167) (ψ := ss_i) (As := [.int (98 : Int32)]) (rest := []) (c := 77) (sv_d k_Lt_test 81 rfl) g_Lt_takes w718 in_Lt_takes se_Lt_takes cf3 kd77 (ss_lt (by decide)) rfl (Nat.le_of_ble_eq_true rfl) (V_Lt_takes E (d + 0) (98 : Int32) r5.2) (Nat.le_of_ble_eq_true rfl) rfl (fun r6 => ?_)
            show sv_V E _ _ _ 170 _ [.int r6.1] (ss_e r6.2) _
            refine sv_if_eq (pc := 170) (tgt := 182) (sv_d k_Lt_test 82 rfl) (by decide) ?_ ?_
            · refine sv_aload_n (pc := 182) 1 (sv_d k_Lt_test 89 rfl) rfl rfl ?_
              refine sv_bipush (pc := 183) (v := (120 : Int32)) (sv_d k_Lt_test 90 rfl) (by decide) ?_
              refine sv_callV (pc := 185) (ψ := ss_i) (As := [.int (120 : Int32)]) (rest := []) (c := 77) (sv_d k_Lt_test 91 rfl) g_Lt_takes w718 in_Lt_takes se_Lt_takes cf3 kd77 (ss_lt (by decide)) rfl (Nat.le_of_ble_eq_true rfl) (V_Lt_takes E (d + 0) (120 : Int32) r6.2) (Nat.le_of_ble_eq_true rfl) rfl (fun r7 => ?_)
              show sv_V E _ _ _ 188 _ [.int r7.1] (ss_e r7.2) _
              refine sv_if_eq (pc := 188) (tgt := 200) (sv_d k_Lt_test 92 rfl) (by decide) ?_ ?_
              · exact sv_loc [1, 0] rfl (V_Lt_test_b200 E d (-1 : Int32) r7.2)
              · refine sv_aload_n (pc := 191) 1 (sv_d k_Lt_test 93 rfl) rfl rfl ?_
                refine sv_bipush (pc := 192) (v := (8 : Int32)) (sv_d k_Lt_test 94 rfl) (by decide) ?_
                refine sv_iconst (pc := 194) (v := (0 : Int32)) (sv_d k_Lt_test 95 rfl) (by decide) ?_
                refine sv_callV (pc := 195) (ψ := ss_v) (As := [.int (8 : Int32), .int (0 : Int32)]) (rest := []) (c := 77) (sv_d k_Lt_test 96 rfl) g_Lt_emit w746 in_Lt_emit se_Lt_emit cf3 kd77 (ss_lt (by decide)) rfl (Nat.le_of_ble_eq_true rfl) (V_Lt_emit E (d + 0) (8 : Int32) (0 : Int32) r7.2) (Nat.le_of_ble_eq_true rfl) rfl (fun r10 => ?_)
                show sv_V E _ _ _ 198 _ [] (ss_e r10) _
                refine sv_iconst (pc := 198) (v := (1 : Int32)) (sv_d k_Lt_test 97 rfl) (by decide) ?_
                exact sv_ret (pc := 199) (sv_d k_Lt_test 98 rfl) ⟨_, rfl, rfl⟩ rfl
            · refine sv_aload_n (pc := 173) 1 (sv_d k_Lt_test 83 rfl) rfl rfl ?_
              refine sv_bipush (pc := 174) (v := (7 : Int32)) (sv_d k_Lt_test 84 rfl) (by decide) ?_
              refine sv_iconst (pc := 176) (v := (0 : Int32)) (sv_d k_Lt_test 85 rfl) (by decide) ?_
              refine sv_callV (pc := 177) (ψ := ss_v) (As := [.int (7 : Int32), .int (0 : Int32)]) (rest := []) (c := 77) (sv_d k_Lt_test 86 rfl) g_Lt_emit w746 in_Lt_emit se_Lt_emit cf3 kd77 (ss_lt (by decide)) rfl (Nat.le_of_ble_eq_true rfl) (V_Lt_emit E (d + 0) (7 : Int32) (0 : Int32) r6.2) (Nat.le_of_ble_eq_true rfl) rfl (fun r11 => ?_)
              show sv_V E _ _ _ 180 _ [] (ss_e r11) _
              refine sv_iconst (pc := 180) (v := (1 : Int32)) (sv_d k_Lt_test 87 rfl) (by decide) ?_
              exact sv_ret (pc := 181) (sv_d k_Lt_test 88 rfl) ⟨_, rfl, rfl⟩ rfl
          · refine sv_aload_n (pc := 132) 1 (sv_d k_Lt_test 64 rfl) rfl rfl ?_
            refine sv_bipush (pc := 133) (v := (60 : Int32)) (sv_d k_Lt_test 65 rfl) (by decide) ?_
            refine sv_callV (pc := 135) (ψ := ss_i) (As := [.int (60 : Int32)]) (rest := []) (c := 77) (sv_d k_Lt_test 66 rfl) g_Lt_takes w718 in_Lt_takes se_Lt_takes cf3 kd77 (ss_lt (by decide)) rfl (Nat.le_of_ble_eq_true rfl) (V_Lt_takes E (d + 0) (60 : Int32) r5.2) (Nat.le_of_ble_eq_true rfl) rfl (fun r12 => ?_)
            show sv_V E _ _ _ 138 _ [.int r12.1] (ss_e r12.2) _
            refine sv_if_eq (pc := 138) (tgt := 145) (sv_d k_Lt_test 67 rfl) (by decide) ?_ ?_
            · refine sv_aload_n (pc := 145) 1 (sv_d k_Lt_test 70 rfl) rfl rfl ?_
              refine sv_bipush (pc := 146) (v := (62 : Int32)) (sv_d k_Lt_test 71 rfl) (by decide) ?_
              refine sv_callV (pc := 148) (ψ := ss_i) (As := [.int (62 : Int32)]) (rest := []) (c := 77) (sv_d k_Lt_test 72 rfl) g_Lt_takes w718 in_Lt_takes se_Lt_takes cf3 kd77 (ss_lt (by decide)) rfl (Nat.le_of_ble_eq_true rfl) (V_Lt_takes E (d + 0) (62 : Int32) r12.2) (Nat.le_of_ble_eq_true rfl) rfl (fun r13 => ?_)
              show sv_V E _ _ _ 151 _ [.int r13.1] (ss_e r13.2) _
              refine sv_if_eq (pc := 151) (tgt := 159) (sv_d k_Lt_test 73 rfl) (by decide) ?_ ?_
              · refine sv_iconst (pc := 159) (v := (-1 : Int32)) (sv_d k_Lt_test 76 rfl) (by decide) ?_
                exact sv_loc [1] rfl (V_Lt_test_b160 E d (-1 : Int32) r13.2)
              · refine sv_bipush (pc := 154) (v := (6 : Int32)) (sv_d k_Lt_test 74 rfl) (by decide) ?_
                refine sv_goto (pc := 156) (tgt := 160) (sv_d k_Lt_test 75 rfl) (by decide) ?_
                exact sv_loc [1] rfl (V_Lt_test_b160 E d (6 : Int32) r13.2)
            · refine sv_iconst (pc := 141) (v := (5 : Int32)) (sv_d k_Lt_test 68 rfl) (by decide) ?_
              refine sv_goto (pc := 142) (tgt := 160) (sv_d k_Lt_test 69 rfl) (by decide) ?_
              exact sv_loc [1] rfl (V_Lt_test_b160 E d (5 : Int32) r12.2)
        · refine sv_aload_n (pc := 92) 1 (sv_d k_Lt_test 45 rfl) rfl rfl ?_
          refine sv_bipush (pc := 93) (v := (60 : Int32)) (sv_d k_Lt_test 46 rfl) (by decide) ?_
          refine sv_callV (pc := 95) (ψ := ss_i) (As := [.int (60 : Int32)]) (rest := []) (c := 77) (sv_d k_Lt_test 47 rfl) g_Lt_takes w718 in_Lt_takes se_Lt_takes cf3 kd77 (ss_lt (by decide)) rfl (Nat.le_of_ble_eq_true rfl) (V_Lt_takes E (d + 0) (60 : Int32) r4.2) (Nat.le_of_ble_eq_true rfl) rfl (fun r14 => ?_)
          show sv_V E _ _ _ 98 _ [.int r14.1] (ss_e r14.2) _
          refine sv_if_eq (pc := 98) (tgt := 105) (sv_d k_Lt_test 48 rfl) (by decide) ?_ ?_
          · refine sv_aload_n (pc := 105) 1 (sv_d k_Lt_test 51 rfl) rfl rfl ?_
            refine sv_bipush (pc := 106) (v := (62 : Int32)) (sv_d k_Lt_test 52 rfl) (by decide) ?_
            refine sv_callV (pc := 108) (ψ := ss_i) (As := [.int (62 : Int32)]) (rest := []) (c := 77) (sv_d k_Lt_test 53 rfl) g_Lt_takes w718 in_Lt_takes se_Lt_takes cf3 kd77 (ss_lt (by decide)) rfl (Nat.le_of_ble_eq_true rfl) (V_Lt_takes E (d + 0) (62 : Int32) r14.2) (Nat.le_of_ble_eq_true rfl) rfl (fun r15 => ?_)
            show sv_V E _ _ _ 111 _ [.int r15.1] (ss_e r15.2) _
            refine sv_if_eq (pc := 111) (tgt := 118) (sv_d k_Lt_test 54 rfl) (by decide) ?_ ?_
            · refine sv_iconst (pc := 118) (v := (-1 : Int32)) (sv_d k_Lt_test 57 rfl) (by decide) ?_
              exact sv_loc [1] rfl (V_Lt_test_b119 E d (-1 : Int32) r15.2)
            · refine sv_iconst (pc := 114) (v := (4 : Int32)) (sv_d k_Lt_test 55 rfl) (by decide) ?_
              refine sv_goto (pc := 115) (tgt := 119) (sv_d k_Lt_test 56 rfl) (by decide) ?_
              exact sv_loc [1] rfl (V_Lt_test_b119 E d (4 : Int32) r15.2)
          · refine sv_iconst (pc := 101) (v := (3 : Int32)) (sv_d k_Lt_test 49 rfl) (by decide) ?_
            refine sv_goto (pc := 102) (tgt := 119) (sv_d k_Lt_test 50 rfl) (by decide) ?_
            exact sv_loc [1] rfl (V_Lt_test_b119 E d (3 : Int32) r14.2)
      · refine sv_aload_n (pc := 65) 1 (sv_d k_Lt_test 32 rfl) rfl rfl ?_
        refine sv_bipush (pc := 66) (v := (61 : Int32)) (sv_d k_Lt_test 33 rfl) (by decide) ?_
        refine sv_callV (pc := 68) (ψ := ss_i) (As := [.int (61 : Int32)]) (rest := []) (c := 77) (sv_d k_Lt_test 34 rfl) g_Lt_takes w718 in_Lt_takes se_Lt_takes cf3 kd77 (ss_lt (by decide)) rfl (Nat.le_of_ble_eq_true rfl) (V_Lt_takes E (d + 0) (61 : Int32) r3.2) (Nat.le_of_ble_eq_true rfl) rfl (fun r16 => ?_)
        show sv_V E _ _ _ 71 _ [.int r16.1] (ss_e r16.2) _
        refine sv_if_eq (pc := 71) (tgt := 78) (sv_d k_Lt_test 35 rfl) (by decide) ?_ ?_
        · refine sv_iconst (pc := 78) (v := (-1 : Int32)) (sv_d k_Lt_test 38 rfl) (by decide) ?_
          exact sv_loc [1] rfl (V_Lt_test_b79 E d (-1 : Int32) r16.2)
        · refine sv_iconst (pc := 74) (v := (2 : Int32)) (sv_d k_Lt_test 36 rfl) (by decide) ?_
          refine sv_goto (pc := 75) (tgt := 79) (sv_d k_Lt_test 37 rfl) (by decide) ?_
          exact sv_loc [1] rfl (V_Lt_test_b79 E d (2 : Int32) r16.2)
    · refine sv_aload_n (pc := 38) 1 (sv_d k_Lt_test 19 rfl) rfl rfl ?_
      refine sv_bipush (pc := 39) (v := (61 : Int32)) (sv_d k_Lt_test 20 rfl) (by decide) ?_
      refine sv_callV (pc := 41) (ψ := ss_i) (As := [.int (61 : Int32)]) (rest := []) (c := 77) (sv_d k_Lt_test 21 rfl) g_Lt_takes w718 in_Lt_takes se_Lt_takes cf3 kd77 (ss_lt (by decide)) rfl (Nat.le_of_ble_eq_true rfl) (V_Lt_takes E (d + 0) (61 : Int32) r2.2) (Nat.le_of_ble_eq_true rfl) rfl (fun r17 => ?_)
      show sv_V E _ _ _ 44 _ [.int r17.1] (ss_e r17.2) _
      refine sv_if_eq (pc := 44) (tgt := 51) (sv_d k_Lt_test 22 rfl) (by decide) ?_ ?_
      · refine sv_iconst (pc := 51) (v := (-1 : Int32)) (sv_d k_Lt_test 25 rfl) (by decide) ?_
        exact sv_loc [1] rfl (V_Lt_test_b52 E d (-1 : Int32) r17.2)
      · refine sv_iconst (pc := 47) (v := (1 : Int32)) (sv_d k_Lt_test 23 rfl) (by decide) ?_
        refine sv_goto (pc := 48) (tgt := 52) (sv_d k_Lt_test 24 rfl) (by decide) ?_
        exact sv_loc [1] rfl (V_Lt_test_b52 E d (1 : Int32) r17.2)
  · refine sv_aload_n (pc := 11) 1 (sv_d k_Lt_test 6 rfl) rfl rfl ?_
    refine sv_bipush (pc := 12) (v := (61 : Int32)) (sv_d k_Lt_test 7 rfl) (by decide) ?_
    refine sv_callV (pc := 14) (ψ := ss_i) (As := [.int (61 : Int32)]) (rest := []) (c := 77) (sv_d k_Lt_test 8 rfl) g_Lt_takes w718 in_Lt_takes se_Lt_takes cf3 kd77 (ss_lt (by decide)) rfl (Nat.le_of_ble_eq_true rfl) (V_Lt_takes E (d + 0) (61 : Int32) r1.2) (Nat.le_of_ble_eq_true rfl) rfl (fun r18 => ?_)
    show sv_V E _ _ _ 17 _ [.int r18.1] (ss_e r18.2) _
    refine sv_if_eq (pc := 17) (tgt := 24) (sv_d k_Lt_test 9 rfl) (by decide) ?_ ?_
    · refine sv_iconst (pc := 24) (v := (-1 : Int32)) (sv_d k_Lt_test 12 rfl) (by decide) ?_
      exact sv_loc [1] rfl (V_Lt_test_b25 E d (-1 : Int32) r18.2)
    · refine sv_iconst (pc := 20) (v := (0 : Int32)) (sv_d k_Lt_test 10 rfl) (by decide) ?_
      refine sv_goto (pc := 21) (tgt := 25) (sv_d k_Lt_test 11 rfl) (by decide) ?_
      exact sv_loc [1] rfl (V_Lt_test_b25 E d (0 : Int32) r18.2)
/-! X_feed -/
abbrev m_X_feed : sv_M := (yX11_feed, cX11_feed, 3, (some .int))
def t_X_feed : List (Nat × Instr × Nat) := [(0, .iload_n 2, 1), (1, .ifCond .lt 8, 3), (4, .iload_n 2, 1), (5, .iconst 4, 1), (6, .if_icmp .le 6, 3), (9, .bipush (-2), 2), (11, .ireturn, 1), (12, .aload_n 0, 1), (13, .getfield 21, 3), (16, .iload_n 2, 1), (17, .invokevirtual 115, 3), (20, .ifCond .eq 15, 3), (23, .aload_n 0, 1), (24, .getfield 21, 3), (27, .iload_n 1, 1), (28, .iload_n 2, 1), (29, .invokevirtual 118, 3), (32, .goto 5, 3), (35, .bipush (-4), 2), (37, .ireturn, 1)]
theorem k_X_feed : sv_tk m_X_feed.2.1 t_X_feed := by decide +kernel
theorem g_X_feed : sv_G m_X_feed 2 := ⟨by decide +kernel, sv_in 608 (by decide +kernel) rfl, sv_in 90 (by decide +kernel) rfl, ⟨by decide, by decide⟩, by decide +kernel, by decide⟩
theorem in_X_feed : Cond.instanceMethod m_X_feed.1 ∈ sv_T := sv_in 606 (by decide +kernel) rfl
theorem se_X_feed : Cond.selects m_X_feed.1.cls m_X_feed.1 m_X_feed.1 ∈ sv_T := sv_in 607 (by decide +kernel) rfl
def F_X_feed (x1 : Int32) (x2 : Int32) (s : sv_S) : Option (Int32 × sv_S) :=
  if x2 < 0 then
    some ((-2 : Int32), s)
  else
  if x2 ≤ (4 : Int32) then
    (F_Lt_hasRoom x2 s).bind fun r1 =>
    if r1 = 0 then
      some ((-4 : Int32), s)
    else
    (F_Lt_append x1 x2 s).bind fun r2 =>
    some (r2.1, r2.2)
  else
  some ((-2 : Int32), s)
theorem V_X_feed (E : sv_E) (d : Nat) (x1 : Int32) (x2 : Int32) (s : sv_S) : sv_V E m_X_feed (d + 1) ss_i 0 (lv_args 0 [sv_r E 64, .int x1, .int x2]) [] (ss_e s) (F_X_feed x1 x2 s) := by
  show sv_V E m_X_feed (d + 1) ss_i 0 [(0, sv_r E 64), (1, .int x1), (2, .int x2)] [] (ss_e s) _
  unfold F_X_feed
  refine sv_iload_n (pc := 0) 2 (sv_d k_X_feed 0 rfl) rfl rfl ?_
  refine sv_if_lt (pc := 1) (tgt := 9) (sv_d k_X_feed 1 rfl) (by decide) ?_ ?_
  · refine sv_bipush (pc := 9) (v := (-2 : Int32)) (sv_d k_X_feed 5 rfl) (by decide) ?_
    exact sv_ret (pc := 11) (sv_d k_X_feed 6 rfl) ⟨_, rfl, rfl⟩ rfl
  · refine sv_iload_n (pc := 4) 2 (sv_d k_X_feed 2 rfl) rfl rfl ?_
    refine sv_iconst (pc := 5) (v := (4 : Int32)) (sv_d k_X_feed 3 rfl) (by decide) ?_
    refine sv_icmp_le (pc := 6) (tgt := 12) (sv_d k_X_feed 4 rfl) (by decide) ?_ ?_
    · refine sv_aload_n (pc := 12) 0 (sv_d k_X_feed 7 rfl) rfl rfl ?_
      refine sv_getf (pc := 13) 1 (sv_d k_X_feed 8 rfl) cf11 (by decide) w517 kd64 (ss_lt (by decide)) (lr_64_1 E _) ?_
      refine sv_iload_n (pc := 16) 2 (sv_d k_X_feed 9 rfl) rfl rfl ?_
      refine sv_callV (pc := 17) (ψ := (ss_pi s)) (As := [.int x2]) (rest := []) (c := 77) (sv_d k_X_feed 10 rfl) g_Lt_hasRoom w609 in_Lt_hasRoom se_Lt_hasRoom cf3 kd77 (ss_lt (by decide)) rfl (Nat.le_of_ble_eq_true rfl) (V_Lt_hasRoom E (d + 0) x2 s) (Nat.le_of_ble_eq_true rfl) rfl (fun r1 => ?_)
      show sv_V E _ _ _ 20 _ [.int r1] (ss_e s) _
      refine sv_if_eq (pc := 20) (tgt := 35) (sv_d k_X_feed 11 rfl) (by decide) ?_ ?_
      · refine sv_bipush (pc := 35) (v := (-4 : Int32)) (sv_d k_X_feed 18 rfl) (by decide) ?_
        exact sv_ret (pc := 37) (sv_d k_X_feed 19 rfl) ⟨_, rfl, rfl⟩ rfl
      · refine sv_aload_n (pc := 23) 0 (sv_d k_X_feed 12 rfl) rfl rfl ?_
        refine sv_getf (pc := 24) 1 (sv_d k_X_feed 13 rfl) cf11 (by decide) w517 kd64 (ss_lt (by decide)) (lr_64_1 E _) ?_
        refine sv_iload_n (pc := 27) 1 (sv_d k_X_feed 14 rfl) rfl rfl ?_
        refine sv_iload_n (pc := 28) 2 (sv_d k_X_feed 15 rfl) rfl rfl ?_
        refine sv_callV (pc := 29) (ψ := ss_i) (As := [.int x1, .int x2]) (rest := []) (c := 77) (sv_d k_X_feed 16 rfl) g_Lt_append w613 in_Lt_append se_Lt_append cf3 kd77 (ss_lt (by decide)) rfl (Nat.le_of_ble_eq_true rfl) (V_Lt_append E (d + 0) x1 x2 s) (Nat.le_of_ble_eq_true rfl) rfl (fun r2 => ?_)
        show sv_V E _ _ _ 32 _ [.int r2.1] (ss_e r2.2) _
        refine sv_goto (pc := 32) (tgt := 37) (sv_d k_X_feed 17 rfl) (by decide) ?_
        exact sv_ret (pc := 37) (sv_d k_X_feed 19 rfl) ⟨_, rfl, rfl⟩ rfl
    · refine sv_bipush (pc := 9) (v := (-2 : Int32)) (sv_d k_X_feed 5 rfl) (by decide) ?_
      exact sv_ret (pc := 11) (sv_d k_X_feed 6 rfl) ⟨_, rfl, rfl⟩ rfl
abbrev m_Lt_factor : sv_M := (yX3_factor, cX3_factor, 3, (some .boolean))
def t_Lt_factor : List (Nat × Instr × Nat) := [(0, .iload_n 1, 1), (1, .iconst 5, 1), (2, .if_icmp .ge 29, 3), (5, .aload_n 0, 1), (6, .bipush 33, 2), (8, .invokevirtual 54, 3), (11, .ifCond .eq 20, 3), (14, .aload_n 0, 1), (15, .iload_n 1, 1), (16, .iconst 1, 1), (17, .iadd, 1), (18, .invokevirtual 139, 3), (21, .istore_n 2, 1), (22, .aload_n 0, 1), (23, .bipush 9, 2), (25, .iconst 0, 1), (26, .invokevirtual 135, 3), (29, .iload_n 2, 1), (30, .ireturn, 1), (31, .iload_n 1, 1), (32, .iconst 5, 1), (33, .if_icmp .ge 37, 3), (36, .aload_n 0, 1), (37, .bipush 40, 2), (39, .invokevirtual 54, 3), (42, .ifCond .eq 28, 3), (45, .aload_n 0, 1), (46, .iload_n 1, 1), (47, .iconst 1, 1), (48, .iadd, 1), (49, .invokevirtual 75, 3), (52, .ifCond .eq 16, 3), (55, .aload_n 0, 1), (56, .bipush 41, 2), (58, .invokevirtual 54, 3), (61, .ifCond .eq 7, 3), (64, .iconst 1, 1), (65, .goto 4, 3), (68, .iconst 0, 1), (69, .ireturn, 1), (70, .aload_n 0, 1), (71, .invokevirtual 142, 3), (74, .ireturn, 1)]
theorem k_Lt_factor : sv_tk m_Lt_factor.2.1 t_Lt_factor := by decide +kernel
theorem g_Lt_factor : sv_G m_Lt_factor 1 := ⟨by decide +kernel, sv_in 745 (by decide +kernel) rfl, sv_in 93 (by decide +kernel) rfl, ⟨by decide, by decide⟩, by decide +kernel, by decide⟩
theorem in_Lt_factor : Cond.instanceMethod m_Lt_factor.1 ∈ sv_T := sv_in 744 (by decide +kernel) rfl
theorem se_Lt_factor : Cond.selects m_Lt_factor.1.cls m_Lt_factor.1 m_Lt_factor.1 ∈ sv_T := sv_in 12 (by decide +kernel) rfl
abbrev m_Lt_both : sv_M := (yX3_both, cX3_both, 3, (some .boolean))
def t_Lt_both : List (Nat × Instr × Nat) := [(0, .aload_n 0, 1), (1, .iload_n 1, 1), (2, .invokevirtual 139, 3), (5, .ifCond .ne 5, 3), (8, .iconst 0, 1), (9, .ireturn, 1), (10, .iconst 0, 1), (11, .istore_n 2, 1), (12, .iload_n 2, 1), (13, .sipush 140, 3), (16, .if_icmp .ge 35, 3), (19, .aload_n 0, 1), (20, .bipush 38, 2), (22, .invokevirtual 54, 3), (25, .ifCond .eq 26, 3), (28, .aload_n 0, 1), (29, .iload_n 1, 1), (30, .invokevirtual 139, 3), (33, .ifCond .ne 5, 3), (36, .iconst 0, 1), (37, .ireturn, 1), (38, .aload_n 0, 1), (39, .bipush 10, 2), (41, .iconst 0, 1), (42, .invokevirtual 135, 3), (45, .iinc 2 1, 3), (48, .goto (-36), 3), (51, .iconst 1, 1), (52, .ireturn, 1)]
theorem k_Lt_both : sv_tk m_Lt_both.2.1 t_Lt_both := by decide +kernel
theorem g_Lt_both : sv_G m_Lt_both 1 := ⟨by decide +kernel, sv_in 741 (by decide +kernel) rfl, sv_in 93 (by decide +kernel) rfl, ⟨by decide, by decide⟩, by decide +kernel, by decide⟩
theorem in_Lt_both : Cond.instanceMethod m_Lt_both.1 ∈ sv_T := sv_in 740 (by decide +kernel) rfl
theorem se_Lt_both : Cond.selects m_Lt_both.1.cls m_Lt_both.1 m_Lt_both.1 ∈ sv_T := sv_in 11 (by decide +kernel) rfl
abbrev m_Lt_either : sv_M := (yX3_either, cX3_either, 3, (some .boolean))
def t_Lt_either : List (Nat × Instr × Nat) := [(0, .aload_n 0, 1), (1, .iload_n 1, 1), (2, .invokevirtual 132, 3), (5, .ifCond .ne 5, 3), (8, .iconst 0, 1), (9, .ireturn, 1), (10, .iconst 0, 1), (11, .istore_n 2, 1), (12, .iload_n 2, 1), (13, .sipush 140, 3), (16, .if_icmp .ge 35, 3), (19, .aload_n 0, 1), (20, .bipush 124, 2), (22, .invokevirtual 54, 3), (25, .ifCond .eq 26, 3), (28, .aload_n 0, 1), (29, .iload_n 1, 1), (30, .invokevirtual 132, 3), (33, .ifCond .ne 5, 3), (36, .iconst 0, 1), (37, .ireturn, 1), (38, .aload_n 0, 1), (39, .bipush 11, 2), (41, .iconst 0, 1), (42, .invokevirtual 135, 3), (45, .iinc 2 1, 3), (48, .goto (-36), 3), (51, .iconst 1, 1), (52, .ireturn, 1)]
theorem k_Lt_either : sv_tk m_Lt_either.2.1 t_Lt_either := by decide +kernel
theorem g_Lt_either : sv_G m_Lt_either 1 := ⟨by decide +kernel, sv_in 737 (by decide +kernel) rfl, sv_in 93 (by decide +kernel) rfl, ⟨by decide, by decide⟩, by decide +kernel, by decide⟩
theorem in_Lt_either : Cond.instanceMethod m_Lt_either.1 ∈ sv_T := sv_in 736 (by decide +kernel) rfl
theorem se_Lt_either : Cond.selects m_Lt_either.1.cls m_Lt_either.1 m_Lt_either.1 ∈ sv_T := sv_in 10 (by decide +kernel) rfl
def F_Lt_factor_b31o (ff : Int32 → sv_S → Option (Int32 × sv_S)) (fe : Int32 → sv_S → Option (Int32 × sv_S)) (x1 : Int32) (s : sv_S) : Option (Int32 × sv_S) :=
  if (5 : Int32) ≤ x1 then
    (F_Lt_test s).bind fun r1 =>
    if sv_bl r1.1 = true then some (r1.1, r1.2) else none
  else
  (F_Lt_takes (40 : Int32) s).bind fun r3 =>
  if r3.1 = 0 then
    (F_Lt_test r3.2).bind fun r4 =>
    if sv_bl r4.1 = true then some (r4.1, r4.2) else none
  else
  (fe (x1 + (1 : Int32)) r3.2).bind fun r6 =>
  if r6.1 = 0 then
    some ((0 : Int32), r6.2)
  else
  (F_Lt_takes (41 : Int32) r6.2).bind fun r7 =>
  if r7.1 = 0 then
    some ((0 : Int32), r7.2)
  else
  some ((1 : Int32), r7.2)
theorem V_Lt_factor_b31o (E : sv_E) (d : Nat) (ff : Int32 → sv_S → Option (Int32 × sv_S)) (Hff : ∀ (x1 : Int32) (s : sv_S), sv_V E m_Lt_factor (d + 1) ss_i 0 (lv_args 0 [sv_r E 77, .int x1]) [] (ss_e s) (ff x1 s)) (fe : Int32 → sv_S → Option (Int32 × sv_S)) (Hfe : ∀ (x1 : Int32) (s : sv_S), sv_V E m_Lt_either (d + 1) ss_i 0 (lv_args 0 [sv_r E 77, .int x1]) [] (ss_e s) (fe x1 s)) (x1 : Int32) (s : sv_S) : sv_V E m_Lt_factor (d + 2) ss_i 31 [(0, sv_r E 77), (1, .int x1)] [] (ss_e s) (F_Lt_factor_b31o ff fe x1 s) := by
  unfold F_Lt_factor_b31o
  refine sv_iload_n (pc := 31) 1 (sv_d k_Lt_factor 19 rfl) rfl rfl ?_
  refine sv_iconst (pc := 32) (v := (5 : Int32)) (sv_d k_Lt_factor 20 rfl) (by decide) ?_
  refine sv_icmp_ge (pc := 33) (tgt := 70) (sv_d k_Lt_factor 21 rfl) (by decide) ?_ ?_
  · refine sv_aload_n (pc := 70) 0 (sv_d k_Lt_factor 40 rfl) rfl rfl ?_
    refine sv_callV (pc := 71) (ψ := ss_i) (As := []) (rest := []) (c := 77) (sv_d k_Lt_factor 41 rfl) g_Lt_test w750 in_Lt_test se_Lt_test cf3 kd77 (ss_lt (by decide)) rfl (Nat.le_of_ble_eq_true rfl) (V_Lt_test E (d + 0) s) (Nat.le_of_ble_eq_true rfl) rfl (fun r1 => ?_)
    show sv_V E _ _ _ 74 _ [.int r1.1] (ss_e r1.2) _
    exact ss_grd (fun bb2 => sv_ret (pc := 74) (sv_d k_Lt_factor 42 rfl) ⟨_, rfl, sv_bln bb2⟩ rfl)
  · refine sv_aload_n (pc := 36) 0 (sv_d k_Lt_factor 22 rfl) rfl rfl ?_
    refine sv_bipush (pc := 37) (v := (40 : Int32)) (sv_d k_Lt_factor 23 rfl) (by decide) ?_
    refine sv_callV (pc := 39) (ψ := ss_i) (As := [.int (40 : Int32)]) (rest := []) (c := 77) (sv_d k_Lt_factor 24 rfl) g_Lt_takes w718 in_Lt_takes se_Lt_takes cf3 kd77 (ss_lt (by decide)) rfl (Nat.le_of_ble_eq_true rfl) (V_Lt_takes E (d + 1) (40 : Int32) s) (Nat.le_of_ble_eq_true rfl) rfl (fun r3 => ?_)
    show sv_V E _ _ _ 42 _ [.int r3.1] (ss_e r3.2) _
    refine sv_if_eq (pc := 42) (tgt := 70) (sv_d k_Lt_factor 25 rfl) (by decide) ?_ ?_
    · refine sv_aload_n (pc := 70) 0 (sv_d k_Lt_factor 40 rfl) rfl rfl ?_
      refine sv_callV (pc := 71) (ψ := ss_i) (As := []) (rest := []) (c := 77) (sv_d k_Lt_factor 41 rfl) g_Lt_test w750 in_Lt_test se_Lt_test cf3 kd77 (ss_lt (by decide)) rfl (Nat.le_of_ble_eq_true rfl) (V_Lt_test E (d + 0) r3.2) (Nat.le_of_ble_eq_true rfl) rfl (fun r4 => ?_)
      show sv_V E _ _ _ 74 _ [.int r4.1] (ss_e r4.2) _
      exact ss_grd (fun bb5 => sv_ret (pc := 74) (sv_d k_Lt_factor 42 rfl) ⟨_, rfl, sv_bln bb5⟩ rfl)
    · refine sv_aload_n (pc := 45) 0 (sv_d k_Lt_factor 26 rfl) rfl rfl ?_
      refine sv_iload_n (pc := 46) 1 (sv_d k_Lt_factor 27 rfl) rfl rfl ?_
      refine sv_iconst (pc := 47) (v := (1 : Int32)) (sv_d k_Lt_factor 28 rfl) (by decide) ?_
      refine sv_iadd (pc := 48) (sv_d k_Lt_factor 29 rfl) ?_
      refine sv_callV (pc := 49) (ψ := ss_i) (As := [.int (x1 + (1 : Int32))]) (rest := []) (c := 77) (sv_d k_Lt_factor 30 rfl) g_Lt_either w734 in_Lt_either se_Lt_either cf3 kd77 (ss_lt (by decide)) rfl (Nat.le_of_ble_eq_true rfl) (Hfe (x1 + (1 : Int32)) r3.2) (Nat.le_of_ble_eq_true rfl) rfl (fun r6 => ?_)
      show sv_V E _ _ _ 52 _ [.int r6.1] (ss_e r6.2) _
      refine sv_if_eq (pc := 52) (tgt := 68) (sv_d k_Lt_factor 31 rfl) (by decide) ?_ ?_
      · refine sv_iconst (pc := 68) (v := (0 : Int32)) (sv_d k_Lt_factor 38 rfl) (by decide) ?_
        exact sv_ret (pc := 69) (sv_d k_Lt_factor 39 rfl) ⟨_, rfl, rfl⟩ rfl
      · refine sv_aload_n (pc := 55) 0 (sv_d k_Lt_factor 32 rfl) rfl rfl ?_
        refine sv_bipush (pc := 56) (v := (41 : Int32)) (sv_d k_Lt_factor 33 rfl) (by decide) ?_
        refine sv_callV (pc := 58) (ψ := ss_i) (As := [.int (41 : Int32)]) (rest := []) (c := 77) (sv_d k_Lt_factor 34 rfl) g_Lt_takes w718 in_Lt_takes se_Lt_takes cf3 kd77 (ss_lt (by decide)) rfl (Nat.le_of_ble_eq_true rfl) (V_Lt_takes E (d + 1) (41 : Int32) r6.2) (Nat.le_of_ble_eq_true rfl) rfl (fun r7 => ?_)
        show sv_V E _ _ _ 61 _ [.int r7.1] (ss_e r7.2) _
        refine sv_if_eq (pc := 61) (tgt := 68) (sv_d k_Lt_factor 35 rfl) (by decide) ?_ ?_
        · refine sv_iconst (pc := 68) (v := (0 : Int32)) (sv_d k_Lt_factor 38 rfl) (by decide) ?_
          exact sv_ret (pc := 69) (sv_d k_Lt_factor 39 rfl) ⟨_, rfl, rfl⟩ rfl
        · refine sv_iconst (pc := 64) (v := (1 : Int32)) (sv_d k_Lt_factor 36 rfl) (by decide) ?_
          refine sv_goto (pc := 65) (tgt := 69) (sv_d k_Lt_factor 37 rfl) (by decide) ?_
          exact sv_ret (pc := 69) (sv_d k_Lt_factor 39 rfl) ⟨_, rfl, rfl⟩ rfl
def F_Lt_factor_o (ff : Int32 → sv_S → Option (Int32 × sv_S)) (fe : Int32 → sv_S → Option (Int32 × sv_S)) (x1 : Int32) (s : sv_S) : Option (Int32 × sv_S) :=
  if (5 : Int32) ≤ x1 then
    F_Lt_factor_b31o ff fe x1 s
  else
  (F_Lt_takes (33 : Int32) s).bind fun r8 =>
  if r8.1 = 0 then
    F_Lt_factor_b31o ff fe x1 r8.2
  else
  (ff (x1 + (1 : Int32)) r8.2).bind fun r9 =>
  (F_Lt_emit (9 : Int32) (0 : Int32) r9.2).bind fun r10 =>
  if sv_bl r9.1 = true then some (r9.1, r10) else none
theorem V_Lt_factor_o (E : sv_E) (d : Nat) (ff : Int32 → sv_S → Option (Int32 × sv_S)) (Hff : ∀ (x1 : Int32) (s : sv_S), sv_V E m_Lt_factor (d + 1) ss_i 0 (lv_args 0 [sv_r E 77, .int x1]) [] (ss_e s) (ff x1 s)) (fe : Int32 → sv_S → Option (Int32 × sv_S)) (Hfe : ∀ (x1 : Int32) (s : sv_S), sv_V E m_Lt_either (d + 1) ss_i 0 (lv_args 0 [sv_r E 77, .int x1]) [] (ss_e s) (fe x1 s)) (x1 : Int32) (s : sv_S) : sv_V E m_Lt_factor (d + 2) ss_i 0 (lv_args 0 [sv_r E 77, .int x1]) [] (ss_e s) (F_Lt_factor_o ff fe x1 s) := by
  show sv_V E m_Lt_factor (d + 2) ss_i 0 [(0, sv_r E 77), (1, .int x1)] [] (ss_e s) _
  unfold F_Lt_factor_o
  refine sv_iload_n (pc := 0) 1 (sv_d k_Lt_factor 0 rfl) rfl rfl ?_
  refine sv_iconst (pc := 1) (v := (5 : Int32)) (sv_d k_Lt_factor 1 rfl) (by decide) ?_
  refine sv_icmp_ge (pc := 2) (tgt := 31) (sv_d k_Lt_factor 2 rfl) (by decide) ?_ ?_
  · exact sv_loc [0, 1] rfl (V_Lt_factor_b31o E d ff Hff fe Hfe x1 s)
  · refine sv_aload_n (pc := 5) 0 (sv_d k_Lt_factor 3 rfl) rfl rfl ?_
    refine sv_bipush (pc := 6) (v := (33 : Int32)) (sv_d k_Lt_factor 4 rfl) (by decide) ?_
    refine sv_callV (pc := 8) (ψ := ss_i) (As := [.int (33 : Int32)]) (rest := []) (c := 77) (sv_d k_Lt_factor 5 rfl) g_Lt_takes w718 in_Lt_takes se_Lt_takes cf3 kd77 (ss_lt (by decide)) rfl (Nat.le_of_ble_eq_true rfl) (V_Lt_takes E (d + 1) (33 : Int32) s) (Nat.le_of_ble_eq_true rfl) rfl (fun r8 => ?_)
    show sv_V E _ _ _ 11 _ [.int r8.1] (ss_e r8.2) _
    refine sv_if_eq (pc := 11) (tgt := 31) (sv_d k_Lt_factor 6 rfl) (by decide) ?_ ?_
    · exact sv_loc [0, 1] rfl (V_Lt_factor_b31o E d ff Hff fe Hfe x1 r8.2)
    · refine sv_aload_n (pc := 14) 0 (sv_d k_Lt_factor 7 rfl) rfl rfl ?_
      refine sv_iload_n (pc := 15) 1 (sv_d k_Lt_factor 8 rfl) rfl rfl ?_
      refine sv_iconst (pc := 16) (v := (1 : Int32)) (sv_d k_Lt_factor 9 rfl) (by decide) ?_
      refine sv_iadd (pc := 17) (sv_d k_Lt_factor 10 rfl) ?_
      refine sv_callV (pc := 18) (ψ := ss_i) (As := [.int (x1 + (1 : Int32))]) (rest := []) (c := 77) (sv_d k_Lt_factor 11 rfl) g_Lt_factor w742 in_Lt_factor se_Lt_factor cf3 kd77 (ss_lt (by decide)) rfl (Nat.le_of_ble_eq_true rfl) (Hff (x1 + (1 : Int32)) r8.2) (Nat.le_of_ble_eq_true rfl) rfl (fun r9 => ?_)
      show sv_V E _ _ _ 21 _ [.int r9.1] (ss_e r9.2) _
      refine sv_istore_n (pc := 21) (lv' := [(2, .int r9.1), (0, sv_r E 77), (1, .int x1)]) (sv_d k_Lt_factor 12 rfl) rfl (by decide) rfl ?_
      refine sv_aload_n (pc := 22) 1 (sv_d k_Lt_factor 13 rfl) rfl rfl ?_
      refine sv_bipush (pc := 23) (v := (9 : Int32)) (sv_d k_Lt_factor 14 rfl) (by decide) ?_
      refine sv_iconst (pc := 25) (v := (0 : Int32)) (sv_d k_Lt_factor 15 rfl) (by decide) ?_
      refine sv_callV (pc := 26) (ψ := ss_v) (As := [.int (9 : Int32), .int (0 : Int32)]) (rest := []) (c := 77) (sv_d k_Lt_factor 16 rfl) g_Lt_emit w746 in_Lt_emit se_Lt_emit cf3 kd77 (ss_lt (by decide)) rfl (Nat.le_of_ble_eq_true rfl) (V_Lt_emit E (d + 1) (9 : Int32) (0 : Int32) r9.2) (Nat.le_of_ble_eq_true rfl) rfl (fun r10 => ?_)
      show sv_V E _ _ _ 29 _ [] (ss_e r10) _
      refine sv_iload_n (pc := 29) 0 (sv_d k_Lt_factor 17 rfl) rfl rfl ?_
      exact ss_grd (fun bb11 => sv_ret (pc := 30) (sv_d k_Lt_factor 18 rfl) ⟨_, rfl, sv_bln bb11⟩ rfl)
def F_Lt_both_b12o (ff : Int32 → sv_S → Option (Int32 × sv_S)) : Nat → Int32 → Int32 → sv_S → Option (Int32 × sv_S)
  | 0 => fun _ _ _ => none
  | n + 1 => fun x1 x2 s =>
    if (140 : Int32) ≤ x2 then
      some ((1 : Int32), s)
    else
    (F_Lt_takes (38 : Int32) s).bind fun r2 =>
    if r2.1 = 0 then
      some ((1 : Int32), r2.2)
    else
    (ff x1 r2.2).bind fun r3 =>
    if r3.1 = 0 then
      some ((0 : Int32), r3.2)
    else
    (F_Lt_emit (10 : Int32) (0 : Int32) r3.2).bind fun r4 =>
    ss_let (x2 + (1 : Int32)) fun v5 =>
    F_Lt_both_b12o ff n x1 v5 r4
theorem V_Lt_both_b12o (E : sv_E) (d : Nat) (ff : Int32 → sv_S → Option (Int32 × sv_S)) (Hff : ∀ (x1 : Int32) (s : sv_S), sv_V E m_Lt_factor (d + 0) ss_i 0 (lv_args 0 [sv_r E 77, .int x1]) [] (ss_e s) (ff x1 s)) : ∀ (n : Nat) (x1 : Int32) (x2 : Int32) (s : sv_S), sv_V E m_Lt_both (d + 1) ss_i 12 [(0, sv_r E 77), (1, .int x1), (2, .int x2)] [] (ss_e s) (F_Lt_both_b12o ff n x1 x2 s) := by
  intro n
  induction n with
  | zero => intro x1 x2 s; exact sv_none
  | succ n ih =>
    intro x1 x2 s
    unfold F_Lt_both_b12o
    refine sv_iload_n (pc := 12) 2 (sv_d k_Lt_both 8 rfl) rfl rfl ?_
    refine sv_sipush (pc := 13) (v := (140 : Int32)) (sv_d k_Lt_both 9 rfl) (by decide) ?_
    refine sv_icmp_ge (pc := 16) (tgt := 51) (sv_d k_Lt_both 10 rfl) (by decide) ?_ ?_
    · refine sv_iconst (pc := 51) (v := (1 : Int32)) (sv_d k_Lt_both 27 rfl) (by decide) ?_
      exact sv_ret (pc := 52) (sv_d k_Lt_both 28 rfl) ⟨_, rfl, rfl⟩ rfl
    · refine sv_aload_n (pc := 19) 0 (sv_d k_Lt_both 11 rfl) rfl rfl ?_
      refine sv_bipush (pc := 20) (v := (38 : Int32)) (sv_d k_Lt_both 12 rfl) (by decide) ?_
      refine sv_callV (pc := 22) (ψ := ss_i) (As := [.int (38 : Int32)]) (rest := []) (c := 77) (sv_d k_Lt_both 13 rfl) g_Lt_takes w718 in_Lt_takes se_Lt_takes cf3 kd77 (ss_lt (by decide)) rfl (Nat.le_of_ble_eq_true rfl) (V_Lt_takes E (d + 0) (38 : Int32) s) (Nat.le_of_ble_eq_true rfl) rfl (fun r2 => ?_)
      show sv_V E _ _ _ 25 _ [.int r2.1] (ss_e r2.2) _
      refine sv_if_eq (pc := 25) (tgt := 51) (sv_d k_Lt_both 14 rfl) (by decide) ?_ ?_
      · refine sv_iconst (pc := 51) (v := (1 : Int32)) (sv_d k_Lt_both 27 rfl) (by decide) ?_
        exact sv_ret (pc := 52) (sv_d k_Lt_both 28 rfl) ⟨_, rfl, rfl⟩ rfl
      · refine sv_aload_n (pc := 28) 0 (sv_d k_Lt_both 15 rfl) rfl rfl ?_
        refine sv_iload_n (pc := 29) 1 (sv_d k_Lt_both 16 rfl) rfl rfl ?_
        refine sv_callV (pc := 30) (ψ := ss_i) (As := [.int x1]) (rest := []) (c := 77) (sv_d k_Lt_both 17 rfl) g_Lt_factor w742 in_Lt_factor se_Lt_factor cf3 kd77 (ss_lt (by decide)) rfl (Nat.le_of_ble_eq_true rfl) (Hff x1 r2.2) (Nat.le_of_ble_eq_true rfl) rfl (fun r3 => ?_)
        show sv_V E _ _ _ 33 _ [.int r3.1] (ss_e r3.2) _
        refine sv_if_ne (pc := 33) (tgt := 38) (sv_d k_Lt_both 18 rfl) (by decide) ?_ ?_
        · refine sv_aload_n (pc := 38) 0 (sv_d k_Lt_both 21 rfl) rfl rfl ?_
          refine sv_bipush (pc := 39) (v := (10 : Int32)) (sv_d k_Lt_both 22 rfl) (by decide) ?_
          refine sv_iconst (pc := 41) (v := (0 : Int32)) (sv_d k_Lt_both 23 rfl) (by decide) ?_
          refine sv_callV (pc := 42) (ψ := ss_v) (As := [.int (10 : Int32), .int (0 : Int32)]) (rest := []) (c := 77) (sv_d k_Lt_both 24 rfl) g_Lt_emit w746 in_Lt_emit se_Lt_emit cf3 kd77 (ss_lt (by decide)) rfl (Nat.le_of_ble_eq_true rfl) (V_Lt_emit E (d + 0) (10 : Int32) (0 : Int32) r3.2) (Nat.le_of_ble_eq_true rfl) rfl (fun r4 => ?_)
          show sv_V E _ _ _ 45 _ [] (ss_e r4) _
          refine ss_letr (fun v5 e_v5 => ?_)
          refine sv_iinc (pc := 45) (v := v5) (lv' := [(2, .int v5), (0, sv_r E 77), (1, .int x1)]) (sv_d k_Lt_both 25 rfl) (n := 2) rfl (by rw [e_v5]; rfl) (by decide) rfl ?_
          refine sv_goto (pc := 48) (tgt := 12) (sv_d k_Lt_both 26 rfl) (by decide) ?_
          exact sv_loc [1, 2, 0] rfl (ih x1 v5 r4)
        · refine sv_iconst (pc := 36) (v := (0 : Int32)) (sv_d k_Lt_both 19 rfl) (by decide) ?_
          exact sv_ret (pc := 37) (sv_d k_Lt_both 20 rfl) ⟨_, rfl, rfl⟩ rfl
def F_Lt_both_o (ff : Int32 → sv_S → Option (Int32 × sv_S)) (x1 : Int32) (s : sv_S) : Option (Int32 × sv_S) :=
  (ff x1 s).bind fun r1 =>
  if r1.1 = 0 then
    some ((0 : Int32), r1.2)
  else
  F_Lt_both_b12o ff ss_F x1 (0 : Int32) r1.2
theorem V_Lt_both_o (E : sv_E) (d : Nat) (ff : Int32 → sv_S → Option (Int32 × sv_S)) (Hff : ∀ (x1 : Int32) (s : sv_S), sv_V E m_Lt_factor (d + 0) ss_i 0 (lv_args 0 [sv_r E 77, .int x1]) [] (ss_e s) (ff x1 s)) (x1 : Int32) (s : sv_S) : sv_V E m_Lt_both (d + 1) ss_i 0 (lv_args 0 [sv_r E 77, .int x1]) [] (ss_e s) (F_Lt_both_o ff x1 s) := by
  show sv_V E m_Lt_both (d + 1) ss_i 0 [(0, sv_r E 77), (1, .int x1)] [] (ss_e s) _
  unfold F_Lt_both_o
  refine sv_aload_n (pc := 0) 0 (sv_d k_Lt_both 0 rfl) rfl rfl ?_
  refine sv_iload_n (pc := 1) 1 (sv_d k_Lt_both 1 rfl) rfl rfl ?_
  refine sv_callV (pc := 2) (ψ := ss_i) (As := [.int x1]) (rest := []) (c := 77) (sv_d k_Lt_both 2 rfl) g_Lt_factor w742 in_Lt_factor se_Lt_factor cf3 kd77 (ss_lt (by decide)) rfl (Nat.le_of_ble_eq_true rfl) (Hff x1 s) (Nat.le_of_ble_eq_true rfl) rfl (fun r1 => ?_)
  show sv_V E _ _ _ 5 _ [.int r1.1] (ss_e r1.2) _
  refine sv_if_ne (pc := 5) (tgt := 10) (sv_d k_Lt_both 3 rfl) (by decide) ?_ ?_
  · refine sv_iconst (pc := 10) (v := (0 : Int32)) (sv_d k_Lt_both 6 rfl) (by decide) ?_
    refine sv_istore_n (pc := 11) (lv' := [(2, .int (0 : Int32)), (0, sv_r E 77), (1, .int x1)]) (sv_d k_Lt_both 7 rfl) rfl (by decide) rfl ?_
    exact sv_loc [1, 2, 0] rfl (V_Lt_both_b12o E d ff Hff ss_F x1 (0 : Int32) r1.2)
  · refine sv_iconst (pc := 8) (v := (0 : Int32)) (sv_d k_Lt_both 4 rfl) (by decide) ?_
    exact sv_ret (pc := 9) (sv_d k_Lt_both 5 rfl) ⟨_, rfl, rfl⟩ rfl
def F_Lt_either_b12o (fb : Int32 → sv_S → Option (Int32 × sv_S)) : Nat → Int32 → Int32 → sv_S → Option (Int32 × sv_S)
  | 0 => fun _ _ _ => none
  | n + 1 => fun x1 x2 s =>
    if (140 : Int32) ≤ x2 then
      some ((1 : Int32), s)
    else
    (F_Lt_takes (124 : Int32) s).bind fun r2 =>
    if r2.1 = 0 then
      some ((1 : Int32), r2.2)
    else
    (fb x1 r2.2).bind fun r3 =>
    if r3.1 = 0 then
      some ((0 : Int32), r3.2)
    else
    (F_Lt_emit (11 : Int32) (0 : Int32) r3.2).bind fun r4 =>
    ss_let (x2 + (1 : Int32)) fun v5 =>
    F_Lt_either_b12o fb n x1 v5 r4
theorem V_Lt_either_b12o (E : sv_E) (d : Nat) (fb : Int32 → sv_S → Option (Int32 × sv_S)) (Hfb : ∀ (x1 : Int32) (s : sv_S), sv_V E m_Lt_both (d + 0) ss_i 0 (lv_args 0 [sv_r E 77, .int x1]) [] (ss_e s) (fb x1 s)) : ∀ (n : Nat) (x1 : Int32) (x2 : Int32) (s : sv_S), sv_V E m_Lt_either (d + 1) ss_i 12 [(0, sv_r E 77), (1, .int x1), (2, .int x2)] [] (ss_e s) (F_Lt_either_b12o fb n x1 x2 s) := by
  intro n
  induction n with
  | zero => intro x1 x2 s; exact sv_none
  | succ n ih =>
    intro x1 x2 s
    unfold F_Lt_either_b12o
    refine sv_iload_n (pc := 12) 2 (sv_d k_Lt_either 8 rfl) rfl rfl ?_
    refine sv_sipush (pc := 13) (v := (140 : Int32)) (sv_d k_Lt_either 9 rfl) (by decide) ?_
    refine sv_icmp_ge (pc := 16) (tgt := 51) (sv_d k_Lt_either 10 rfl) (by decide) ?_ ?_
    · refine sv_iconst (pc := 51) (v := (1 : Int32)) (sv_d k_Lt_either 27 rfl) (by decide) ?_
      exact sv_ret (pc := 52) (sv_d k_Lt_either 28 rfl) ⟨_, rfl, rfl⟩ rfl
    · refine sv_aload_n (pc := 19) 0 (sv_d k_Lt_either 11 rfl) rfl rfl ?_
      refine sv_bipush (pc := 20) (v := (124 : Int32)) (sv_d k_Lt_either 12 rfl) (by decide) ?_
      refine sv_callV (pc := 22) (ψ := ss_i) (As := [.int (124 : Int32)]) (rest := []) (c := 77) (sv_d k_Lt_either 13 rfl) g_Lt_takes w718 in_Lt_takes se_Lt_takes cf3 kd77 (ss_lt (by decide)) rfl (Nat.le_of_ble_eq_true rfl) (V_Lt_takes E (d + 0) (124 : Int32) s) (Nat.le_of_ble_eq_true rfl) rfl (fun r2 => ?_)
      show sv_V E _ _ _ 25 _ [.int r2.1] (ss_e r2.2) _
      refine sv_if_eq (pc := 25) (tgt := 51) (sv_d k_Lt_either 14 rfl) (by decide) ?_ ?_
      · refine sv_iconst (pc := 51) (v := (1 : Int32)) (sv_d k_Lt_either 27 rfl) (by decide) ?_
        exact sv_ret (pc := 52) (sv_d k_Lt_either 28 rfl) ⟨_, rfl, rfl⟩ rfl
      · refine sv_aload_n (pc := 28) 0 (sv_d k_Lt_either 15 rfl) rfl rfl ?_
        refine sv_iload_n (pc := 29) 1 (sv_d k_Lt_either 16 rfl) rfl rfl ?_
        refine sv_callV (pc := 30) (ψ := ss_i) (As := [.int x1]) (rest := []) (c := 77) (sv_d k_Lt_either 17 rfl) g_Lt_both w738 in_Lt_both se_Lt_both cf3 kd77 (ss_lt (by decide)) rfl (Nat.le_of_ble_eq_true rfl) (Hfb x1 r2.2) (Nat.le_of_ble_eq_true rfl) rfl (fun r3 => ?_)
        show sv_V E _ _ _ 33 _ [.int r3.1] (ss_e r3.2) _
        refine sv_if_ne (pc := 33) (tgt := 38) (sv_d k_Lt_either 18 rfl) (by decide) ?_ ?_
        · refine sv_aload_n (pc := 38) 0 (sv_d k_Lt_either 21 rfl) rfl rfl ?_
          refine sv_bipush (pc := 39) (v := (11 : Int32)) (sv_d k_Lt_either 22 rfl) (by decide) ?_
          refine sv_iconst (pc := 41) (v := (0 : Int32)) (sv_d k_Lt_either 23 rfl) (by decide) ?_
          refine sv_callV (pc := 42) (ψ := ss_v) (As := [.int (11 : Int32), .int (0 : Int32)]) (rest := []) (c := 77) (sv_d k_Lt_either 24 rfl) g_Lt_emit w746 in_Lt_emit se_Lt_emit cf3 kd77 (ss_lt (by decide)) rfl (Nat.le_of_ble_eq_true rfl) (V_Lt_emit E (d + 0) (11 : Int32) (0 : Int32) r3.2) (Nat.le_of_ble_eq_true rfl) rfl (fun r4 => ?_)
          show sv_V E _ _ _ 45 _ [] (ss_e r4) _
          refine ss_letr (fun v5 e_v5 => ?_)
          refine sv_iinc (pc := 45) (v := v5) (lv' := [(2, .int v5), (0, sv_r E 77), (1, .int x1)]) (sv_d k_Lt_either 25 rfl) (n := 2) rfl (by rw [e_v5]; rfl) (by decide) rfl ?_
          refine sv_goto (pc := 48) (tgt := 12) (sv_d k_Lt_either 26 rfl) (by decide) ?_
          exact sv_loc [1, 2, 0] rfl (ih x1 v5 r4)
        · refine sv_iconst (pc := 36) (v := (0 : Int32)) (sv_d k_Lt_either 19 rfl) (by decide) ?_
          exact sv_ret (pc := 37) (sv_d k_Lt_either 20 rfl) ⟨_, rfl, rfl⟩ rfl
def F_Lt_either_o (fb : Int32 → sv_S → Option (Int32 × sv_S)) (x1 : Int32) (s : sv_S) : Option (Int32 × sv_S) :=
  (fb x1 s).bind fun r1 =>
  if r1.1 = 0 then
    some ((0 : Int32), r1.2)
  else
  F_Lt_either_b12o fb ss_F x1 (0 : Int32) r1.2
theorem V_Lt_either_o (E : sv_E) (d : Nat) (fb : Int32 → sv_S → Option (Int32 × sv_S)) (Hfb : ∀ (x1 : Int32) (s : sv_S), sv_V E m_Lt_both (d + 0) ss_i 0 (lv_args 0 [sv_r E 77, .int x1]) [] (ss_e s) (fb x1 s)) (x1 : Int32) (s : sv_S) : sv_V E m_Lt_either (d + 1) ss_i 0 (lv_args 0 [sv_r E 77, .int x1]) [] (ss_e s) (F_Lt_either_o fb x1 s) := by
  show sv_V E m_Lt_either (d + 1) ss_i 0 [(0, sv_r E 77), (1, .int x1)] [] (ss_e s) _
  unfold F_Lt_either_o
  refine sv_aload_n (pc := 0) 0 (sv_d k_Lt_either 0 rfl) rfl rfl ?_
  refine sv_iload_n (pc := 1) 1 (sv_d k_Lt_either 1 rfl) rfl rfl ?_
  refine sv_callV (pc := 2) (ψ := ss_i) (As := [.int x1]) (rest := []) (c := 77) (sv_d k_Lt_either 2 rfl) g_Lt_both w738 in_Lt_both se_Lt_both cf3 kd77 (ss_lt (by decide)) rfl (Nat.le_of_ble_eq_true rfl) (Hfb x1 s) (Nat.le_of_ble_eq_true rfl) rfl (fun r1 => ?_)
  show sv_V E _ _ _ 5 _ [.int r1.1] (ss_e r1.2) _
  refine sv_if_ne (pc := 5) (tgt := 10) (sv_d k_Lt_either 3 rfl) (by decide) ?_ ?_
  · refine sv_iconst (pc := 10) (v := (0 : Int32)) (sv_d k_Lt_either 6 rfl) (by decide) ?_
    refine sv_istore_n (pc := 11) (lv' := [(2, .int (0 : Int32)), (0, sv_r E 77), (1, .int x1)]) (sv_d k_Lt_either 7 rfl) rfl (by decide) rfl ?_
    exact sv_loc [1, 2, 0] rfl (V_Lt_either_b12o E d fb Hfb ss_F x1 (0 : Int32) r1.2)
  · refine sv_iconst (pc := 8) (v := (0 : Int32)) (sv_d k_Lt_either 4 rfl) (by decide) ?_
    exact sv_ret (pc := 9) (sv_d k_Lt_either 5 rfl) ⟨_, rfl, rfl⟩ rfl
def F_Lt_factorN : Nat → Int32 → sv_S → Option (Int32 × sv_S)
  | 0 => fun _ _ => none
  | n + 1 => fun x s => F_Lt_factor_o (F_Lt_factorN n) (F_Lt_either_o (F_Lt_both_o (F_Lt_factorN n))) x s
theorem V_Lt_factorN (E : sv_E) : ∀ (n d : Nat) (x1 : Int32) (s : sv_S), sv_V E m_Lt_factor (d + 3 * n) ss_i 0 (lv_args 0 [sv_r E 77, .int x1]) [] (ss_e s) (F_Lt_factorN n x1 s) := by
  intro n
  induction n with
  | zero => intro d x1 s; exact sv_none
  | succ n ih =>
    intro d x1 s
    have e1 : d + 3 * (n + 1) = (d + 3 * n + 1) + 2 := by omega
    rw [e1]
    unfold F_Lt_factorN
    refine V_Lt_factor_o E (d + 3 * n + 1) _ (fun x s => ?_) _ (fun x s => ?_) x1 s
    · have h := ih (d + 2) x s
      rwa [show d + 2 + 3 * n = d + 3 * n + 1 + 1 by omega] at h
    · exact V_Lt_either_o E (d + 3 * n + 1) _ (fun x s => V_Lt_both_o E (d + 3 * n) _ (fun x s => ih d x s) x s) x s
def F_Lt_factor (x1 : Int32) (s : sv_S) : Option (Int32 × sv_S) := F_Lt_factorN 10 x1 s
theorem V_Lt_factor (E : sv_E) (d : Nat) (x1 : Int32) (s : sv_S) : sv_V E m_Lt_factor (d + 30) ss_i 0 (lv_args 0 [sv_r E 77, .int x1]) [] (ss_e s) (F_Lt_factor x1 s) := V_Lt_factorN E 10 d x1 s
def F_Lt_both (x1 : Int32) (s : sv_S) : Option (Int32 × sv_S) := F_Lt_both_o F_Lt_factor x1 s
theorem V_Lt_both (E : sv_E) (d : Nat) (x1 : Int32) (s : sv_S) : sv_V E m_Lt_both (d + 31) ss_i 0 (lv_args 0 [sv_r E 77, .int x1]) [] (ss_e s) (F_Lt_both x1 s) := V_Lt_both_o E (d + 30) _ (fun x s => V_Lt_factor E d x s) x1 s
def F_Lt_either (x1 : Int32) (s : sv_S) : Option (Int32 × sv_S) := F_Lt_either_o F_Lt_both x1 s
theorem V_Lt_either (E : sv_E) (d : Nat) (x1 : Int32) (s : sv_S) : sv_V E m_Lt_either (d + 32) ss_i 0 (lv_args 0 [sv_r E 77, .int x1]) [] (ss_e s) (F_Lt_either x1 s) := V_Lt_either_o E (d + 31) _ (fun x s => V_Lt_both E d x s) x1 s
/-! Lt_clause -/
abbrev m_Lt_clause : sv_M := (yX3_clause, cX3_clause, 4, (some .boolean))
def t_Lt_clause : List (Nat × Instr × Nat) := [(0, .aload_n 0, 1), (1, .invokevirtual 65, 3), (4, .istore_n 1, 1), (5, .iload_n 1, 1), (6, .tableswitch (176) (-1) (10) #[62, 64, 176, 176, 176, 176, 176, 74, 84, 69, 94, 135], 62), (68, .iconst 0, 1), (69, .ireturn, 1), (70, .aload_n 0, 1), (71, .invokevirtual 69, 3), (74, .ireturn, 1), (75, .aload_n 0, 1), (76, .invokevirtual 72, 3), (79, .ireturn, 1), (80, .aload_n 0, 1), (81, .getfield 15, 3), (84, .bipush 6, 2), (86, .iconst 1, 1), (87, .iastore, 1), (88, .iconst 1, 1), (89, .ireturn, 1), (90, .aload_n 0, 1), (91, .getfield 15, 3), (94, .bipush 6, 2), (96, .iconst 0, 1), (97, .iastore, 1), (98, .iconst 1, 1), (99, .ireturn, 1), (100, .aload_n 0, 1), (101, .aload_n 0, 1), (102, .getfield 58, 3), (105, .putfield 26, 3), (108, .aload_n 0, 1), (109, .bipush 32, 2), (111, .invokevirtual 54, 3), (114, .ifCond .eq 15, 3), (117, .aload_n 0, 1), (118, .iconst 0, 1), (119, .invokevirtual 75, 3), (122, .ifCond .eq 7, 3), (125, .iconst 1, 1), (126, .goto 4, 3), (129, .iconst 0, 1), (130, .istore_n 2, 1), (131, .aload_n 0, 1), (132, .aload_n 0, 1), (133, .getfield 58, 3), (136, .putfield 29, 3), (139, .iload_n 2, 1), (140, .ireturn, 1), (141, .aload_n 0, 1), (142, .aload_n 0, 1), (143, .getfield 58, 3), (146, .putfield 38, 3), (149, .aload_n 0, 1), (150, .bipush 32, 2), (152, .invokevirtual 54, 3), (155, .ifCond .eq 15, 3), (158, .aload_n 0, 1), (159, .iconst 0, 1), (160, .invokevirtual 75, 3), (163, .ifCond .eq 7, 3), (166, .iconst 1, 1), (167, .goto 4, 3), (170, .iconst 0, 1), (171, .istore_n 3, 1), (172, .aload_n 0, 1), (173, .aload_n 0, 1), (174, .getfield 58, 3), (177, .putfield 41, 3), (180, .iload_n 3, 1), (181, .ireturn, 1), (182, .aload_n 0, 1), (183, .bipush 32, 2), (185, .invokevirtual 54, 3), (188, .ifCond .eq 15, 3), (191, .aload_n 0, 1), (192, .iload_n 1, 1), (193, .invokevirtual 79, 3), (196, .ifCond .eq 7, 3), (199, .iconst 1, 1), (200, .goto 4, 3), (203, .iconst 0, 1), (204, .ireturn, 1)]
theorem k_Lt_clause : sv_tk m_Lt_clause.2.1 t_Lt_clause := by decide +kernel
theorem g_Lt_clause : sv_G m_Lt_clause 0 := ⟨by decide +kernel, sv_in 640 (by decide +kernel) rfl, sv_in 93 (by decide +kernel) rfl, ⟨by decide, by decide⟩, by decide +kernel, by decide⟩
theorem in_Lt_clause : Cond.instanceMethod m_Lt_clause.1 ∈ sv_T := sv_in 639 (by decide +kernel) rfl
theorem se_Lt_clause : Cond.selects m_Lt_clause.1.cls m_Lt_clause.1 m_Lt_clause.1 ∈ sv_T := sv_in 2 (by decide +kernel) rfl
def F_Lt_clause (s : sv_S) : Option (Int32 × sv_S) :=
  (F_Lt_word s).bind fun r1 =>
  if r1.1 = (-1 : Int32) then
    some ((0 : Int32), r1.2)
  else if r1.1 = (0 : Int32) then
    (F_Lt_goodClause r1.2).bind fun r3 =>
    if sv_bl r3.1 = true then some (r3.1, r3.2) else none
  else if r1.1 = (6 : Int32) then
    if sv_ib (6 : Int32) 40 = true then
      ss_let (ss_setI r1.2 79 (6 : Int32).toNatClampNeg (1 : Int32)) fun s6 =>
      some ((1 : Int32), s6)
    else none
  else if r1.1 = (7 : Int32) then
    if sv_ib (6 : Int32) 40 = true then
      ss_let (ss_setI r1.2 79 (6 : Int32).toNatClampNeg (0 : Int32)) fun s8 =>
      some ((1 : Int32), s8)
    else none
  else if r1.1 = (8 : Int32) then
    (F_Lt_mostClause r1.2).bind fun r10 =>
    if sv_bl r10.1 = true then some (r10.1, r10.2) else none
  else if r1.1 = (9 : Int32) then
    ss_let (ss_setI r1.2 77 6 (r1.2.1 77 5)) fun s13 =>
    (F_Lt_takes (32 : Int32) s13).bind fun r14 =>
    if r14.1 = 0 then
      ss_let (ss_setI r14.2 77 7 (r14.2.1 77 5)) fun s15 =>
      some ((0 : Int32), s15)
    else
    (F_Lt_either (0 : Int32) r14.2).bind fun r16 =>
    if r16.1 = 0 then
      ss_let (ss_setI r16.2 77 7 (r16.2.1 77 5)) fun s17 =>
      some ((0 : Int32), s17)
    else
    ss_let (ss_setI r16.2 77 7 (r16.2.1 77 5)) fun s18 =>
    some ((1 : Int32), s18)
  else if r1.1 = (10 : Int32) then
    ss_let (ss_setI r1.2 77 8 (r1.2.1 77 5)) fun s20 =>
    (F_Lt_takes (32 : Int32) s20).bind fun r21 =>
    if r21.1 = 0 then
      ss_let (ss_setI r21.2 77 9 (r21.2.1 77 5)) fun s22 =>
      some ((0 : Int32), s22)
    else
    (F_Lt_either (0 : Int32) r21.2).bind fun r23 =>
    if r23.1 = 0 then
      ss_let (ss_setI r23.2 77 9 (r23.2.1 77 5)) fun s24 =>
      some ((0 : Int32), s24)
    else
    ss_let (ss_setI r23.2 77 9 (r23.2.1 77 5)) fun s25 =>
    some ((1 : Int32), s25)
  else 
  (F_Lt_takes (32 : Int32) r1.2).bind fun r27 =>
  if r27.1 = 0 then
    some ((0 : Int32), r27.2)
  else
  (F_Lt_numberInto r1.1 r27.2).bind fun r28 =>
  if r28.1 = 0 then
    some ((0 : Int32), r28.2)
  else
  some ((1 : Int32), r28.2)
theorem V_Lt_clause (E : sv_E) (d : Nat) (s : sv_S) : sv_V E m_Lt_clause (d + 33) ss_i 0 (lv_args 0 [sv_r E 77]) [] (ss_e s) (F_Lt_clause s) := by
  show sv_V E m_Lt_clause (d + 33) ss_i 0 [(0, sv_r E 77)] [] (ss_e s) _
  unfold F_Lt_clause
  refine sv_aload_n (pc := 0) 0 (sv_d k_Lt_clause 0 rfl) rfl rfl ?_
  refine sv_callV (pc := 1) (ψ := ss_i) (As := []) (rest := []) (c := 77) (sv_d k_Lt_clause 1 rfl) g_Lt_word w641 in_Lt_word se_Lt_word cf3 kd77 (ss_lt (by decide)) rfl (Nat.le_of_ble_eq_true rfl) (V_Lt_word E (d + 26) s) (Nat.le_of_ble_eq_true rfl) rfl (fun r1 => ?_)
  show sv_V E _ _ _ 4 _ [.int r1.1] (ss_e r1.2) _
  refine sv_istore_n (pc := 4) (lv' := [(1, .int r1.1), (0, sv_r E 77)]) (sv_d k_Lt_clause 2 rfl) rfl (by decide) rfl ?_
  refine sv_iload_n (pc := 5) 0 (sv_d k_Lt_clause 3 rfl) rfl rfl ?_
  refine ss_dec (fun hh2 => ?_) (fun hh2 => ?_)
  · refine sv_tab (pc := 6) (tgt := 68) (sv_d k_Lt_clause 4 rfl) (-1 : Int32) hh2 (by decide) (by decide) rfl (by decide) ?_
    refine sv_iconst (pc := 68) (v := (0 : Int32)) (sv_d k_Lt_clause 5 rfl) (by decide) ?_
    exact sv_ret (pc := 69) (sv_d k_Lt_clause 6 rfl) ⟨_, rfl, rfl⟩ rfl
  · refine ss_dec (fun hh5 => ?_) (fun hh5 => ?_)
    · refine sv_tab (pc := 6) (tgt := 70) (sv_d k_Lt_clause 4 rfl) (0 : Int32) hh5 (by decide) (by decide) rfl (by decide) ?_
      refine sv_aload_n (pc := 70) 1 (sv_d k_Lt_clause 7 rfl) rfl rfl ?_
      refine sv_callV (pc := 71) (ψ := ss_i) (As := []) (rest := []) (c := 77) (sv_d k_Lt_clause 8 rfl) g_Lt_goodClause w714 in_Lt_goodClause se_Lt_goodClause cf3 kd77 (ss_lt (by decide)) rfl (Nat.le_of_ble_eq_true rfl) (V_Lt_goodClause E (d + 31) r1.2) (Nat.le_of_ble_eq_true rfl) rfl (fun r3 => ?_)
      show sv_V E _ _ _ 74 _ [.int r3.1] (ss_e r3.2) _
      exact ss_grd (fun bb4 => sv_ret (pc := 74) (sv_d k_Lt_clause 9 rfl) ⟨_, rfl, sv_bln bb4⟩ rfl)
    · refine ss_dec (fun hh7 => ?_) (fun hh7 => ?_)
      · refine sv_tab (pc := 6) (tgt := 80) (sv_d k_Lt_clause 4 rfl) (6 : Int32) hh7 (by decide) (by decide) rfl (by decide) ?_
        refine sv_aload_n (pc := 80) 1 (sv_d k_Lt_clause 13 rfl) rfl rfl ?_
        refine sv_getf (pc := 81) 1 (sv_d k_Lt_clause 14 rfl) cf3 (by decide) w156 kd77 (ss_lt (by decide)) (lr_77_1 E _) ?_
        refine sv_bipush (pc := 84) (v := (6 : Int32)) (sv_d k_Lt_clause 15 rfl) (by decide) ?_
        refine sv_iconst (pc := 86) (v := (1 : Int32)) (sv_d k_Lt_clause 16 rfl) (by decide) ?_
        refine ss_iast (pc := 87) (n := 40) (sv_d k_Lt_clause 17 rfl) kd79 (by decide) (ss_lt (by decide)) rfl (ss_lets (fun s6 e_s6 => ?_))
        refine sv_iconst (pc := 88) (v := (1 : Int32)) (sv_d k_Lt_clause 18 rfl) (by decide) ?_
        exact sv_ret (pc := 89) (sv_d k_Lt_clause 19 rfl) ⟨_, rfl, rfl⟩ rfl
      · refine ss_dec (fun hh9 => ?_) (fun hh9 => ?_)
        · refine sv_tab (pc := 6) (tgt := 90) (sv_d k_Lt_clause 4 rfl) (7 : Int32) hh9 (by decide) (by decide) rfl (by decide) ?_
          refine sv_aload_n (pc := 90) 1 (sv_d k_Lt_clause 20 rfl) rfl rfl ?_
          refine sv_getf (pc := 91) 1 (sv_d k_Lt_clause 21 rfl) cf3 (by decide) w156 kd77 (ss_lt (by decide)) (lr_77_1 E _) ?_
          refine sv_bipush (pc := 94) (v := (6 : Int32)) (sv_d k_Lt_clause 22 rfl) (by decide) ?_
          refine sv_iconst (pc := 96) (v := (0 : Int32)) (sv_d k_Lt_clause 23 rfl) (by decide) ?_
          refine ss_iast (pc := 97) (n := 40) (sv_d k_Lt_clause 24 rfl) kd79 (by decide) (ss_lt (by decide)) rfl (ss_lets (fun s8 e_s8 => ?_))
          refine sv_iconst (pc := 98) (v := (1 : Int32)) (sv_d k_Lt_clause 25 rfl) (by decide) ?_
          exact sv_ret (pc := 99) (sv_d k_Lt_clause 26 rfl) ⟨_, rfl, rfl⟩ rfl
        · refine ss_dec (fun hh12 => ?_) (fun hh12 => ?_)
          · refine sv_tab (pc := 6) (tgt := 75) (sv_d k_Lt_clause 4 rfl) (8 : Int32) hh12 (by decide) (by decide) rfl (by decide) ?_
            refine sv_aload_n (pc := 75) 1 (sv_d k_Lt_clause 10 rfl) rfl rfl ?_
            refine sv_callV (pc := 76) (ψ := ss_i) (As := []) (rest := []) (c := 77) (sv_d k_Lt_clause 11 rfl) g_Lt_mostClause w726 in_Lt_mostClause se_Lt_mostClause cf3 kd77 (ss_lt (by decide)) rfl (Nat.le_of_ble_eq_true rfl) (V_Lt_mostClause E (d + 30) r1.2) (Nat.le_of_ble_eq_true rfl) rfl (fun r10 => ?_)
            show sv_V E _ _ _ 79 _ [.int r10.1] (ss_e r10.2) _
            exact ss_grd (fun bb11 => sv_ret (pc := 79) (sv_d k_Lt_clause 12 rfl) ⟨_, rfl, sv_bln bb11⟩ rfl)
          · refine ss_dec (fun hh19 => ?_) (fun hh19 => ?_)
            · refine sv_tab (pc := 6) (tgt := 100) (sv_d k_Lt_clause 4 rfl) (9 : Int32) hh19 (by decide) (by decide) rfl (by decide) ?_
              refine sv_aload_n (pc := 100) 1 (sv_d k_Lt_clause 27 rfl) rfl rfl ?_
              refine sv_aload_n (pc := 101) 1 (sv_d k_Lt_clause 28 rfl) rfl rfl ?_
              refine sv_getf (pc := 102) 5 (sv_d k_Lt_clause 29 rfl) cf3 (by decide) w163 kd77 (ss_lt (by decide)) rfl ?_
              refine ss_putI (pc := 105) 6 (sv_d k_Lt_clause 30 rfl) cf3 (by decide) rfl w164 kd77 (ss_lt (by decide)) rfl rfl (fun _ => rfl) (ss_lets (fun s13 e_s13 => ?_))
              refine sv_aload_n (pc := 108) 1 (sv_d k_Lt_clause 31 rfl) rfl rfl ?_
              refine sv_bipush (pc := 109) (v := (32 : Int32)) (sv_d k_Lt_clause 32 rfl) (by decide) ?_
              refine sv_callV (pc := 111) (ψ := ss_i) (As := [.int (32 : Int32)]) (rest := []) (c := 77) (sv_d k_Lt_clause 33 rfl) g_Lt_takes w718 in_Lt_takes se_Lt_takes cf3 kd77 (ss_lt (by decide)) rfl (Nat.le_of_ble_eq_true rfl) (V_Lt_takes E (d + 32) (32 : Int32) s13) (Nat.le_of_ble_eq_true rfl) rfl (fun r14 => ?_)
              show sv_V E _ _ _ 114 _ [.int r14.1] (ss_e r14.2) _
              refine sv_if_eq (pc := 114) (tgt := 129) (sv_d k_Lt_clause 34 rfl) (by decide) ?_ ?_
              · refine sv_iconst (pc := 129) (v := (0 : Int32)) (sv_d k_Lt_clause 41 rfl) (by decide) ?_
                refine sv_istore_n (pc := 130) (lv' := [(2, .int (0 : Int32)), (1, .int r1.1), (0, sv_r E 77)]) (sv_d k_Lt_clause 42 rfl) rfl (by decide) rfl ?_
                refine sv_aload_n (pc := 131) 2 (sv_d k_Lt_clause 43 rfl) rfl rfl ?_
                refine sv_aload_n (pc := 132) 2 (sv_d k_Lt_clause 44 rfl) rfl rfl ?_
                refine sv_getf (pc := 133) 5 (sv_d k_Lt_clause 45 rfl) cf3 (by decide) w163 kd77 (ss_lt (by decide)) rfl ?_
                refine ss_putI (pc := 136) 7 (sv_d k_Lt_clause 46 rfl) cf3 (by decide) rfl w165 kd77 (ss_lt (by decide)) rfl rfl (fun _ => rfl) (ss_lets (fun s15 e_s15 => ?_))
                refine sv_iload_n (pc := 139) 0 (sv_d k_Lt_clause 47 rfl) rfl rfl ?_
                exact sv_ret (pc := 140) (sv_d k_Lt_clause 48 rfl) ⟨_, rfl, rfl⟩ rfl
              · refine sv_aload_n (pc := 117) 1 (sv_d k_Lt_clause 35 rfl) rfl rfl ?_
                refine sv_iconst (pc := 118) (v := (0 : Int32)) (sv_d k_Lt_clause 36 rfl) (by decide) ?_
                refine sv_callV (pc := 119) (ψ := ss_i) (As := [.int (0 : Int32)]) (rest := []) (c := 77) (sv_d k_Lt_clause 37 rfl) g_Lt_either w734 in_Lt_either se_Lt_either cf3 kd77 (ss_lt (by decide)) rfl (Nat.le_of_ble_eq_true rfl) (V_Lt_either E (d + 0) (0 : Int32) r14.2) (Nat.le_of_ble_eq_true rfl) rfl (fun r16 => ?_)
                show sv_V E _ _ _ 122 _ [.int r16.1] (ss_e r16.2) _
                refine sv_if_eq (pc := 122) (tgt := 129) (sv_d k_Lt_clause 38 rfl) (by decide) ?_ ?_
                · refine sv_iconst (pc := 129) (v := (0 : Int32)) (sv_d k_Lt_clause 41 rfl) (by decide) ?_
                  refine sv_istore_n (pc := 130) (lv' := [(2, .int (0 : Int32)), (1, .int r1.1), (0, sv_r E 77)]) (sv_d k_Lt_clause 42 rfl) rfl (by decide) rfl ?_
                  refine sv_aload_n (pc := 131) 2 (sv_d k_Lt_clause 43 rfl) rfl rfl ?_
                  refine sv_aload_n (pc := 132) 2 (sv_d k_Lt_clause 44 rfl) rfl rfl ?_
                  refine sv_getf (pc := 133) 5 (sv_d k_Lt_clause 45 rfl) cf3 (by decide) w163 kd77 (ss_lt (by decide)) rfl ?_
                  refine ss_putI (pc := 136) 7 (sv_d k_Lt_clause 46 rfl) cf3 (by decide) rfl w165 kd77 (ss_lt (by decide)) rfl rfl (fun _ => rfl) (ss_lets (fun s17 e_s17 => ?_))
                  refine sv_iload_n (pc := 139) 0 (sv_d k_Lt_clause 47 rfl) rfl rfl ?_
                  exact sv_ret (pc := 140) (sv_d k_Lt_clause 48 rfl) ⟨_, rfl, rfl⟩ rfl
                · refine sv_iconst (pc := 125) (v := (1 : Int32)) (sv_d k_Lt_clause 39 rfl) (by decide) ?_
                  refine sv_goto (pc := 126) (tgt := 130) (sv_d k_Lt_clause 40 rfl) (by decide) ?_
                  refine sv_istore_n (pc := 130) (lv' := [(2, .int (1 : Int32)), (1, .int r1.1), (0, sv_r E 77)]) (sv_d k_Lt_clause 42 rfl) rfl (by decide) rfl ?_
                  refine sv_aload_n (pc := 131) 2 (sv_d k_Lt_clause 43 rfl) rfl rfl ?_
                  refine sv_aload_n (pc := 132) 2 (sv_d k_Lt_clause 44 rfl) rfl rfl ?_
                  refine sv_getf (pc := 133) 5 (sv_d k_Lt_clause 45 rfl) cf3 (by decide) w163 kd77 (ss_lt (by decide)) rfl ?_
                  refine ss_putI (pc := 136) 7 (sv_d k_Lt_clause 46 rfl) cf3 (by decide) rfl w165 kd77 (ss_lt (by decide)) rfl rfl (fun _ => rfl) (ss_lets (fun s18 e_s18 => ?_))
                  refine sv_iload_n (pc := 139) 0 (sv_d k_Lt_clause 47 rfl) rfl rfl ?_
                  exact sv_ret (pc := 140) (sv_d k_Lt_clause 48 rfl) ⟨_, rfl, rfl⟩ rfl
            · refine ss_dec (fun hh26 => ?_) (fun hh26 => ?_)
              · refine sv_tab (pc := 6) (tgt := 141) (sv_d k_Lt_clause 4 rfl) (10 : Int32) hh26 (by decide) (by decide) rfl (by decide) ?_
                refine sv_aload_n (pc := 141) 1 (sv_d k_Lt_clause 49 rfl) rfl rfl ?_
                refine sv_aload_n (pc := 142) 1 (sv_d k_Lt_clause 50 rfl) rfl rfl ?_
                refine sv_getf (pc := 143) 5 (sv_d k_Lt_clause 51 rfl) cf3 (by decide) w163 kd77 (ss_lt (by decide)) rfl ?_
                refine ss_putI (pc := 146) 8 (sv_d k_Lt_clause 52 rfl) cf3 (by decide) rfl w166 kd77 (ss_lt (by decide)) rfl rfl (fun _ => rfl) (ss_lets (fun s20 e_s20 => ?_))
                refine sv_aload_n (pc := 149) 1 (sv_d k_Lt_clause 53 rfl) rfl rfl ?_
                refine sv_bipush (pc := 150) (v := (32 : Int32)) (sv_d k_Lt_clause 54 rfl) (by decide) ?_
                refine sv_callV (pc := 152) (ψ := ss_i) (As := [.int (32 : Int32)]) (rest := []) (c := 77) (sv_d k_Lt_clause 55 rfl) g_Lt_takes w718 in_Lt_takes se_Lt_takes cf3 kd77 (ss_lt (by decide)) rfl (Nat.le_of_ble_eq_true rfl) (V_Lt_takes E (d + 32) (32 : Int32) s20) (Nat.le_of_ble_eq_true rfl) rfl (fun r21 => ?_)
                show sv_V E _ _ _ 155 _ [.int r21.1] (ss_e r21.2) _
                refine sv_if_eq (pc := 155) (tgt := 170) (sv_d k_Lt_clause 56 rfl) (by decide) ?_ ?_
                · refine sv_iconst (pc := 170) (v := (0 : Int32)) (sv_d k_Lt_clause 63 rfl) (by decide) ?_
                  refine sv_istore_n (pc := 171) (lv' := [(3, .int (0 : Int32)), (1, .int r1.1), (0, sv_r E 77)]) (sv_d k_Lt_clause 64 rfl) rfl (by decide) rfl ?_
                  refine sv_aload_n (pc := 172) 2 (sv_d k_Lt_clause 65 rfl) rfl rfl ?_
                  refine sv_aload_n (pc := 173) 2 (sv_d k_Lt_clause 66 rfl) rfl rfl ?_
                  refine sv_getf (pc := 174) 5 (sv_d k_Lt_clause 67 rfl) cf3 (by decide) w163 kd77 (ss_lt (by decide)) rfl ?_
                  refine ss_putI (pc := 177) 9 (sv_d k_Lt_clause 68 rfl) cf3 (by decide) rfl w167 kd77 (ss_lt (by decide)) rfl rfl (fun _ => rfl) (ss_lets (fun s22 e_s22 => ?_))
                  refine sv_iload_n (pc := 180) 0 (sv_d k_Lt_clause 69 rfl) rfl rfl ?_
                  exact sv_ret (pc := 181) (sv_d k_Lt_clause 70 rfl) ⟨_, rfl, rfl⟩ rfl
                · refine sv_aload_n (pc := 158) 1 (sv_d k_Lt_clause 57 rfl) rfl rfl ?_
                  refine sv_iconst (pc := 159) (v := (0 : Int32)) (sv_d k_Lt_clause 58 rfl) (by decide) ?_
                  refine sv_callV (pc := 160) (ψ := ss_i) (As := [.int (0 : Int32)]) (rest := []) (c := 77) (sv_d k_Lt_clause 59 rfl) g_Lt_either w734 in_Lt_either se_Lt_either cf3 kd77 (ss_lt (by decide)) rfl (Nat.le_of_ble_eq_true rfl) (V_Lt_either E (d + 0) (0 : Int32) r21.2) (Nat.le_of_ble_eq_true rfl) rfl (fun r23 => ?_)
                  show sv_V E _ _ _ 163 _ [.int r23.1] (ss_e r23.2) _
                  refine sv_if_eq (pc := 163) (tgt := 170) (sv_d k_Lt_clause 60 rfl) (by decide) ?_ ?_
                  · refine sv_iconst (pc := 170) (v := (0 : Int32)) (sv_d k_Lt_clause 63 rfl) (by decide) ?_
                    refine sv_istore_n (pc := 171) (lv' := [(3, .int (0 : Int32)), (1, .int r1.1), (0, sv_r E 77)]) (sv_d k_Lt_clause 64 rfl) rfl (by decide) rfl ?_
                    refine sv_aload_n (pc := 172) 2 (sv_d k_Lt_clause 65 rfl) rfl rfl ?_
                    refine sv_aload_n (pc := 173) 2 (sv_d k_Lt_clause 66 rfl) rfl rfl ?_
                    refine sv_getf (pc := 174) 5 (sv_d k_Lt_clause 67 rfl) cf3 (by decide) w163 kd77 (ss_lt (by decide)) rfl ?_
                    refine ss_putI (pc := 177) 9 (sv_d k_Lt_clause 68 rfl) cf3 (by decide) rfl w167 kd77 (ss_lt (by decide)) rfl rfl (fun _ => rfl) (ss_lets (fun s24 e_s24 => ?_))
                    refine sv_iload_n (pc := 180) 0 (sv_d k_Lt_clause 69 rfl) rfl rfl ?_
                    exact sv_ret (pc := 181) (sv_d k_Lt_clause 70 rfl) ⟨_, rfl, rfl⟩ rfl
                  · refine sv_iconst (pc := 166) (v := (1 : Int32)) (sv_d k_Lt_clause 61 rfl) (by decide) ?_
                    refine sv_goto (pc := 167) (tgt := 171) (sv_d k_Lt_clause 62 rfl) (by decide) ?_
                    refine sv_istore_n (pc := 171) (lv' := [(3, .int (1 : Int32)), (1, .int r1.1), (0, sv_r E 77)]) (sv_d k_Lt_clause 64 rfl) rfl (by decide) rfl ?_
                    refine sv_aload_n (pc := 172) 2 (sv_d k_Lt_clause 65 rfl) rfl rfl ?_
                    refine sv_aload_n (pc := 173) 2 (sv_d k_Lt_clause 66 rfl) rfl rfl ?_
                    refine sv_getf (pc := 174) 5 (sv_d k_Lt_clause 67 rfl) cf3 (by decide) w163 kd77 (ss_lt (by decide)) rfl ?_
                    refine ss_putI (pc := 177) 9 (sv_d k_Lt_clause 68 rfl) cf3 (by decide) rfl w167 kd77 (ss_lt (by decide)) rfl rfl (fun _ => rfl) (ss_lets (fun s25 e_s25 => ?_))
                    refine sv_iload_n (pc := 180) 0 (sv_d k_Lt_clause 69 rfl) rfl rfl ?_
                    exact sv_ret (pc := 181) (sv_d k_Lt_clause 70 rfl) ⟨_, rfl, rfl⟩ rfl
              · by_cases hz1 : r1.1 = (1 : Int32)
                · refine sv_tab (pc := 6) (tgt := 182) (sv_d k_Lt_clause 4 rfl) (1 : Int32) hz1 (by decide) (by decide) rfl (by decide) ?_
                  refine sv_aload_n (pc := 182) 1 (sv_d k_Lt_clause 71 rfl) rfl rfl ?_
                  refine sv_bipush (pc := 183) (v := (32 : Int32)) (sv_d k_Lt_clause 72 rfl) (by decide) ?_
                  refine sv_callV (pc := 185) (ψ := ss_i) (As := [.int (32 : Int32)]) (rest := []) (c := 77) (sv_d k_Lt_clause 73 rfl) g_Lt_takes w718 in_Lt_takes se_Lt_takes cf3 kd77 (ss_lt (by decide)) rfl (Nat.le_of_ble_eq_true rfl) (V_Lt_takes E (d + 32) (32 : Int32) r1.2) (Nat.le_of_ble_eq_true rfl) rfl (fun r27 => ?_)
                  show sv_V E _ _ _ 188 _ [.int r27.1] (ss_e r27.2) _
                  refine sv_if_eq (pc := 188) (tgt := 203) (sv_d k_Lt_clause 74 rfl) (by decide) ?_ ?_
                  · refine sv_iconst (pc := 203) (v := (0 : Int32)) (sv_d k_Lt_clause 81 rfl) (by decide) ?_
                    exact sv_ret (pc := 204) (sv_d k_Lt_clause 82 rfl) ⟨_, rfl, rfl⟩ rfl
                  · refine sv_aload_n (pc := 191) 1 (sv_d k_Lt_clause 75 rfl) rfl rfl ?_
                    refine sv_iload_n (pc := 192) 0 (sv_d k_Lt_clause 76 rfl) rfl rfl ?_
                    refine sv_callV (pc := 193) (ψ := ss_i) (As := [.int r1.1]) (rest := []) (c := 77) (sv_d k_Lt_clause 77 rfl) g_Lt_numberInto w730 in_Lt_numberInto se_Lt_numberInto cf3 kd77 (ss_lt (by decide)) rfl (Nat.le_of_ble_eq_true rfl) (V_Lt_numberInto E (d + 31) r1.1 r27.2) (Nat.le_of_ble_eq_true rfl) rfl (fun r28 => ?_)
                    show sv_V E _ _ _ 196 _ [.int r28.1] (ss_e r28.2) _
                    refine sv_if_eq (pc := 196) (tgt := 203) (sv_d k_Lt_clause 78 rfl) (by decide) ?_ ?_
                    · refine sv_iconst (pc := 203) (v := (0 : Int32)) (sv_d k_Lt_clause 81 rfl) (by decide) ?_
                      exact sv_ret (pc := 204) (sv_d k_Lt_clause 82 rfl) ⟨_, rfl, rfl⟩ rfl
                    · refine sv_iconst (pc := 199) (v := (1 : Int32)) (sv_d k_Lt_clause 79 rfl) (by decide) ?_
                      refine sv_goto (pc := 200) (tgt := 204) (sv_d k_Lt_clause 80 rfl) (by decide) ?_
                      exact sv_ret (pc := 204) (sv_d k_Lt_clause 82 rfl) ⟨_, rfl, rfl⟩ rfl
                by_cases hz2 : r1.1 = (2 : Int32)
                · refine sv_tab (pc := 6) (tgt := 182) (sv_d k_Lt_clause 4 rfl) (2 : Int32) hz2 (by decide) (by decide) rfl (by decide) ?_
                  refine sv_aload_n (pc := 182) 1 (sv_d k_Lt_clause 71 rfl) rfl rfl ?_
                  refine sv_bipush (pc := 183) (v := (32 : Int32)) (sv_d k_Lt_clause 72 rfl) (by decide) ?_
                  refine sv_callV (pc := 185) (ψ := ss_i) (As := [.int (32 : Int32)]) (rest := []) (c := 77) (sv_d k_Lt_clause 73 rfl) g_Lt_takes w718 in_Lt_takes se_Lt_takes cf3 kd77 (ss_lt (by decide)) rfl (Nat.le_of_ble_eq_true rfl) (V_Lt_takes E (d + 32) (32 : Int32) r1.2) (Nat.le_of_ble_eq_true rfl) rfl (fun r27 => ?_)
                  show sv_V E _ _ _ 188 _ [.int r27.1] (ss_e r27.2) _
                  refine sv_if_eq (pc := 188) (tgt := 203) (sv_d k_Lt_clause 74 rfl) (by decide) ?_ ?_
                  · refine sv_iconst (pc := 203) (v := (0 : Int32)) (sv_d k_Lt_clause 81 rfl) (by decide) ?_
                    exact sv_ret (pc := 204) (sv_d k_Lt_clause 82 rfl) ⟨_, rfl, rfl⟩ rfl
                  · refine sv_aload_n (pc := 191) 1 (sv_d k_Lt_clause 75 rfl) rfl rfl ?_
                    refine sv_iload_n (pc := 192) 0 (sv_d k_Lt_clause 76 rfl) rfl rfl ?_
                    refine sv_callV (pc := 193) (ψ := ss_i) (As := [.int r1.1]) (rest := []) (c := 77) (sv_d k_Lt_clause 77 rfl) g_Lt_numberInto w730 in_Lt_numberInto se_Lt_numberInto cf3 kd77 (ss_lt (by decide)) rfl (Nat.le_of_ble_eq_true rfl) (V_Lt_numberInto E (d + 31) r1.1 r27.2) (Nat.le_of_ble_eq_true rfl) rfl (fun r28 => ?_)
                    show sv_V E _ _ _ 196 _ [.int r28.1] (ss_e r28.2) _
                    refine sv_if_eq (pc := 196) (tgt := 203) (sv_d k_Lt_clause 78 rfl) (by decide) ?_ ?_
                    · refine sv_iconst (pc := 203) (v := (0 : Int32)) (sv_d k_Lt_clause 81 rfl) (by decide) ?_
                      exact sv_ret (pc := 204) (sv_d k_Lt_clause 82 rfl) ⟨_, rfl, rfl⟩ rfl
                    · refine sv_iconst (pc := 199) (v := (1 : Int32)) (sv_d k_Lt_clause 79 rfl) (by decide) ?_
                      refine sv_goto (pc := 200) (tgt := 204) (sv_d k_Lt_clause 80 rfl) (by decide) ?_
                      exact sv_ret (pc := 204) (sv_d k_Lt_clause 82 rfl) ⟨_, rfl, rfl⟩ rfl
                by_cases hz3 : r1.1 = (3 : Int32)
                · refine sv_tab (pc := 6) (tgt := 182) (sv_d k_Lt_clause 4 rfl) (3 : Int32) hz3 (by decide) (by decide) rfl (by decide) ?_
                  refine sv_aload_n (pc := 182) 1 (sv_d k_Lt_clause 71 rfl) rfl rfl ?_
                  refine sv_bipush (pc := 183) (v := (32 : Int32)) (sv_d k_Lt_clause 72 rfl) (by decide) ?_
                  refine sv_callV (pc := 185) (ψ := ss_i) (As := [.int (32 : Int32)]) (rest := []) (c := 77) (sv_d k_Lt_clause 73 rfl) g_Lt_takes w718 in_Lt_takes se_Lt_takes cf3 kd77 (ss_lt (by decide)) rfl (Nat.le_of_ble_eq_true rfl) (V_Lt_takes E (d + 32) (32 : Int32) r1.2) (Nat.le_of_ble_eq_true rfl) rfl (fun r27 => ?_)
                  show sv_V E _ _ _ 188 _ [.int r27.1] (ss_e r27.2) _
                  refine sv_if_eq (pc := 188) (tgt := 203) (sv_d k_Lt_clause 74 rfl) (by decide) ?_ ?_
                  · refine sv_iconst (pc := 203) (v := (0 : Int32)) (sv_d k_Lt_clause 81 rfl) (by decide) ?_
                    exact sv_ret (pc := 204) (sv_d k_Lt_clause 82 rfl) ⟨_, rfl, rfl⟩ rfl
                  · refine sv_aload_n (pc := 191) 1 (sv_d k_Lt_clause 75 rfl) rfl rfl ?_
                    refine sv_iload_n (pc := 192) 0 (sv_d k_Lt_clause 76 rfl) rfl rfl ?_
                    refine sv_callV (pc := 193) (ψ := ss_i) (As := [.int r1.1]) (rest := []) (c := 77) (sv_d k_Lt_clause 77 rfl) g_Lt_numberInto w730 in_Lt_numberInto se_Lt_numberInto cf3 kd77 (ss_lt (by decide)) rfl (Nat.le_of_ble_eq_true rfl) (V_Lt_numberInto E (d + 31) r1.1 r27.2) (Nat.le_of_ble_eq_true rfl) rfl (fun r28 => ?_)
                    show sv_V E _ _ _ 196 _ [.int r28.1] (ss_e r28.2) _
                    refine sv_if_eq (pc := 196) (tgt := 203) (sv_d k_Lt_clause 78 rfl) (by decide) ?_ ?_
                    · refine sv_iconst (pc := 203) (v := (0 : Int32)) (sv_d k_Lt_clause 81 rfl) (by decide) ?_
                      exact sv_ret (pc := 204) (sv_d k_Lt_clause 82 rfl) ⟨_, rfl, rfl⟩ rfl
                    · refine sv_iconst (pc := 199) (v := (1 : Int32)) (sv_d k_Lt_clause 79 rfl) (by decide) ?_
                      refine sv_goto (pc := 200) (tgt := 204) (sv_d k_Lt_clause 80 rfl) (by decide) ?_
                      exact sv_ret (pc := 204) (sv_d k_Lt_clause 82 rfl) ⟨_, rfl, rfl⟩ rfl
                by_cases hz4 : r1.1 = (4 : Int32)
                · refine sv_tab (pc := 6) (tgt := 182) (sv_d k_Lt_clause 4 rfl) (4 : Int32) hz4 (by decide) (by decide) rfl (by decide) ?_
                  refine sv_aload_n (pc := 182) 1 (sv_d k_Lt_clause 71 rfl) rfl rfl ?_
                  refine sv_bipush (pc := 183) (v := (32 : Int32)) (sv_d k_Lt_clause 72 rfl) (by decide) ?_
                  refine sv_callV (pc := 185) (ψ := ss_i) (As := [.int (32 : Int32)]) (rest := []) (c := 77) (sv_d k_Lt_clause 73 rfl) g_Lt_takes w718 in_Lt_takes se_Lt_takes cf3 kd77 (ss_lt (by decide)) rfl (Nat.le_of_ble_eq_true rfl) (V_Lt_takes E (d + 32) (32 : Int32) r1.2) (Nat.le_of_ble_eq_true rfl) rfl (fun r27 => ?_)
                  show sv_V E _ _ _ 188 _ [.int r27.1] (ss_e r27.2) _
                  refine sv_if_eq (pc := 188) (tgt := 203) (sv_d k_Lt_clause 74 rfl) (by decide) ?_ ?_
                  · refine sv_iconst (pc := 203) (v := (0 : Int32)) (sv_d k_Lt_clause 81 rfl) (by decide) ?_
                    exact sv_ret (pc := 204) (sv_d k_Lt_clause 82 rfl) ⟨_, rfl, rfl⟩ rfl
                  · refine sv_aload_n (pc := 191) 1 (sv_d k_Lt_clause 75 rfl) rfl rfl ?_
                    refine sv_iload_n (pc := 192) 0 (sv_d k_Lt_clause 76 rfl) rfl rfl ?_
                    refine sv_callV (pc := 193) (ψ := ss_i) (As := [.int r1.1]) (rest := []) (c := 77) (sv_d k_Lt_clause 77 rfl) g_Lt_numberInto w730 in_Lt_numberInto se_Lt_numberInto cf3 kd77 (ss_lt (by decide)) rfl (Nat.le_of_ble_eq_true rfl) (V_Lt_numberInto E (d + 31) r1.1 r27.2) (Nat.le_of_ble_eq_true rfl) rfl (fun r28 => ?_)
                    show sv_V E _ _ _ 196 _ [.int r28.1] (ss_e r28.2) _
                    refine sv_if_eq (pc := 196) (tgt := 203) (sv_d k_Lt_clause 78 rfl) (by decide) ?_ ?_
                    · refine sv_iconst (pc := 203) (v := (0 : Int32)) (sv_d k_Lt_clause 81 rfl) (by decide) ?_
                      exact sv_ret (pc := 204) (sv_d k_Lt_clause 82 rfl) ⟨_, rfl, rfl⟩ rfl
                    · refine sv_iconst (pc := 199) (v := (1 : Int32)) (sv_d k_Lt_clause 79 rfl) (by decide) ?_
                      refine sv_goto (pc := 200) (tgt := 204) (sv_d k_Lt_clause 80 rfl) (by decide) ?_
                      exact sv_ret (pc := 204) (sv_d k_Lt_clause 82 rfl) ⟨_, rfl, rfl⟩ rfl
                by_cases hz5 : r1.1 = (5 : Int32)
                · refine sv_tab (pc := 6) (tgt := 182) (sv_d k_Lt_clause 4 rfl) (5 : Int32) hz5 (by decide) (by decide) rfl (by decide) ?_
                  refine sv_aload_n (pc := 182) 1 (sv_d k_Lt_clause 71 rfl) rfl rfl ?_
                  refine sv_bipush (pc := 183) (v := (32 : Int32)) (sv_d k_Lt_clause 72 rfl) (by decide) ?_
                  refine sv_callV (pc := 185) (ψ := ss_i) (As := [.int (32 : Int32)]) (rest := []) (c := 77) (sv_d k_Lt_clause 73 rfl) g_Lt_takes w718 in_Lt_takes se_Lt_takes cf3 kd77 (ss_lt (by decide)) rfl (Nat.le_of_ble_eq_true rfl) (V_Lt_takes E (d + 32) (32 : Int32) r1.2) (Nat.le_of_ble_eq_true rfl) rfl (fun r27 => ?_)
                  show sv_V E _ _ _ 188 _ [.int r27.1] (ss_e r27.2) _
                  refine sv_if_eq (pc := 188) (tgt := 203) (sv_d k_Lt_clause 74 rfl) (by decide) ?_ ?_
                  · refine sv_iconst (pc := 203) (v := (0 : Int32)) (sv_d k_Lt_clause 81 rfl) (by decide) ?_
                    exact sv_ret (pc := 204) (sv_d k_Lt_clause 82 rfl) ⟨_, rfl, rfl⟩ rfl
                  · refine sv_aload_n (pc := 191) 1 (sv_d k_Lt_clause 75 rfl) rfl rfl ?_
                    refine sv_iload_n (pc := 192) 0 (sv_d k_Lt_clause 76 rfl) rfl rfl ?_
                    refine sv_callV (pc := 193) (ψ := ss_i) (As := [.int r1.1]) (rest := []) (c := 77) (sv_d k_Lt_clause 77 rfl) g_Lt_numberInto w730 in_Lt_numberInto se_Lt_numberInto cf3 kd77 (ss_lt (by decide)) rfl (Nat.le_of_ble_eq_true rfl) (V_Lt_numberInto E (d + 31) r1.1 r27.2) (Nat.le_of_ble_eq_true rfl) rfl (fun r28 => ?_)
                    show sv_V E _ _ _ 196 _ [.int r28.1] (ss_e r28.2) _
                    refine sv_if_eq (pc := 196) (tgt := 203) (sv_d k_Lt_clause 78 rfl) (by decide) ?_ ?_
                    · refine sv_iconst (pc := 203) (v := (0 : Int32)) (sv_d k_Lt_clause 81 rfl) (by decide) ?_
                      exact sv_ret (pc := 204) (sv_d k_Lt_clause 82 rfl) ⟨_, rfl, rfl⟩ rfl
                    · refine sv_iconst (pc := 199) (v := (1 : Int32)) (sv_d k_Lt_clause 79 rfl) (by decide) ?_
                      refine sv_goto (pc := 200) (tgt := 204) (sv_d k_Lt_clause 80 rfl) (by decide) ?_
                      exact sv_ret (pc := 204) (sv_d k_Lt_clause 82 rfl) ⟨_, rfl, rfl⟩ rfl
                refine sv_tabD (pc := 6) (tgt := 182) (sv_d k_Lt_clause 4 rfl) (by rcases Int.lt_or_le (Int32.toInt r1.1) (-1) with q | q; exact Or.inl q; have q := (sv_nlt (sv_nlt (sv_nlt (sv_nlt (sv_nlt (sv_nlt (sv_nlt (sv_nlt (sv_nlt (sv_nlt (sv_nlt (sv_nlt q (lv_neT hh2 rfl)) (lv_neT hh5 rfl)) (lv_neT hz1 rfl)) (lv_neT hz2 rfl)) (lv_neT hz3 rfl)) (lv_neT hz4 rfl)) (lv_neT hz5 rfl)) (lv_neT hh7 rfl)) (lv_neT hh9 rfl)) (lv_neT hh12 rfl)) (lv_neT hh19 rfl)) (lv_neT hh26 rfl)); exact Or.inr (by omega)) (by decide) ?_
                refine sv_aload_n (pc := 182) 1 (sv_d k_Lt_clause 71 rfl) rfl rfl ?_
                refine sv_bipush (pc := 183) (v := (32 : Int32)) (sv_d k_Lt_clause 72 rfl) (by decide) ?_
                refine sv_callV (pc := 185) (ψ := ss_i) (As := [.int (32 : Int32)]) (rest := []) (c := 77) (sv_d k_Lt_clause 73 rfl) g_Lt_takes w718 in_Lt_takes se_Lt_takes cf3 kd77 (ss_lt (by decide)) rfl (Nat.le_of_ble_eq_true rfl) (V_Lt_takes E (d + 32) (32 : Int32) r1.2) (Nat.le_of_ble_eq_true rfl) rfl (fun r27 => ?_)
                show sv_V E _ _ _ 188 _ [.int r27.1] (ss_e r27.2) _
                refine sv_if_eq (pc := 188) (tgt := 203) (sv_d k_Lt_clause 74 rfl) (by decide) ?_ ?_
                · refine sv_iconst (pc := 203) (v := (0 : Int32)) (sv_d k_Lt_clause 81 rfl) (by decide) ?_
                  exact sv_ret (pc := 204) (sv_d k_Lt_clause 82 rfl) ⟨_, rfl, rfl⟩ rfl
                · refine sv_aload_n (pc := 191) 1 (sv_d k_Lt_clause 75 rfl) rfl rfl ?_
                  refine sv_iload_n (pc := 192) 0 (sv_d k_Lt_clause 76 rfl) rfl rfl ?_
                  refine sv_callV (pc := 193) (ψ := ss_i) (As := [.int r1.1]) (rest := []) (c := 77) (sv_d k_Lt_clause 77 rfl) g_Lt_numberInto w730 in_Lt_numberInto se_Lt_numberInto cf3 kd77 (ss_lt (by decide)) rfl (Nat.le_of_ble_eq_true rfl) (V_Lt_numberInto E (d + 31) r1.1 r27.2) (Nat.le_of_ble_eq_true rfl) rfl (fun r28 => ?_)
                  show sv_V E _ _ _ 196 _ [.int r28.1] (ss_e r28.2) _
                  refine sv_if_eq (pc := 196) (tgt := 203) (sv_d k_Lt_clause 78 rfl) (by decide) ?_ ?_
                  · refine sv_iconst (pc := 203) (v := (0 : Int32)) (sv_d k_Lt_clause 81 rfl) (by decide) ?_
                    exact sv_ret (pc := 204) (sv_d k_Lt_clause 82 rfl) ⟨_, rfl, rfl⟩ rfl
                  · refine sv_iconst (pc := 199) (v := (1 : Int32)) (sv_d k_Lt_clause 79 rfl) (by decide) ?_
                    refine sv_goto (pc := 200) (tgt := 204) (sv_d k_Lt_clause 80 rfl) (by decide) ?_
                    exact sv_ret (pc := 204) (sv_d k_Lt_clause 82 rfl) ⟨_, rfl, rfl⟩ rfl
/-! Lt_parses -/
abbrev m_Lt_parses : sv_M := (yX3_parses, cX3_parses, 2, (some .boolean))
def t_Lt_parses : List (Nat × Instr × Nat) := [(0, .aload_n 0, 1), (1, .invokevirtual 44, 3), (4, .iconst 0, 1), (5, .istore_n 1, 1), (6, .iload_n 1, 1), (7, .bipush 10, 2), (9, .if_icmp .ge 48, 3), (12, .aload_n 0, 1), (13, .invokevirtual 47, 3), (16, .ifCond .ne 5, 3), (19, .iconst 0, 1), (20, .ireturn, 1), (21, .aload_n 0, 1), (22, .getfield 51, 3), (25, .aload_n 0, 1), (26, .getfield 22, 3), (29, .if_icmp .ne 5, 3), (32, .iconst 1, 1), (33, .ireturn, 1), (34, .iload_n 1, 1), (35, .bipush 9, 2), (37, .if_icmp .eq 12, 3), (40, .aload_n 0, 1), (41, .bipush 59, 2), (43, .invokevirtual 54, 3), (46, .ifCond .ne 5, 3), (49, .iconst 0, 1), (50, .ireturn, 1), (51, .iinc 1 1, 3), (54, .goto (-48), 3), (57, .iconst 0, 1), (58, .ireturn, 1)]
theorem k_Lt_parses : sv_tk m_Lt_parses.2.1 t_Lt_parses := by decide +kernel
theorem g_Lt_parses : sv_G m_Lt_parses 0 := ⟨by decide +kernel, sv_in 631 (by decide +kernel) rfl, sv_in 93 (by decide +kernel) rfl, ⟨by decide, by decide⟩, by decide +kernel, by decide⟩
theorem in_Lt_parses : Cond.instanceMethod m_Lt_parses.1 ∈ sv_T := sv_in 629 (by decide +kernel) rfl
theorem se_Lt_parses : Cond.selects m_Lt_parses.1.cls m_Lt_parses.1 m_Lt_parses.1 ∈ sv_T := sv_in 630 (by decide +kernel) rfl
def F_Lt_parses_b6 : Nat → Int32 → sv_S → Option (Int32 × sv_S)
  | 0 => fun _ _ => none
  | n + 1 => fun x1 s =>
    if (10 : Int32) ≤ x1 then
      some ((0 : Int32), s)
    else
    (F_Lt_clause s).bind fun r2 =>
    if r2.1 = 0 then
      some ((0 : Int32), r2.2)
    else
    if (r2.2.1 77 4) = (r2.2.1 77 3) then
      some ((1 : Int32), r2.2)
    else
    if x1 = (9 : Int32) then
      some ((0 : Int32), r2.2)
    else
    (F_Lt_takes (59 : Int32) r2.2).bind fun r3 =>
    if r3.1 = 0 then
      some ((0 : Int32), r3.2)
    else
    ss_let (x1 + (1 : Int32)) fun v4 =>
    F_Lt_parses_b6  n v4 r3.2
theorem V_Lt_parses_b6 (E : sv_E) (d : Nat) : ∀ (n : Nat) (x1 : Int32) (s : sv_S), sv_V E m_Lt_parses (d + 34) ss_i 6 [(0, sv_r E 77), (1, .int x1)] [] (ss_e s) (F_Lt_parses_b6 n x1 s) := by
  intro n
  induction n with
  | zero => intro x1 s; exact sv_none
  | succ n ih =>
    intro x1 s
    unfold F_Lt_parses_b6
    refine sv_iload_n (pc := 6) 1 (sv_d k_Lt_parses 4 rfl) rfl rfl ?_
    refine sv_bipush (pc := 7) (v := (10 : Int32)) (sv_d k_Lt_parses 5 rfl) (by decide) ?_
    refine sv_icmp_ge (pc := 9) (tgt := 57) (sv_d k_Lt_parses 6 rfl) (by decide) ?_ ?_
    · refine sv_iconst (pc := 57) (v := (0 : Int32)) (sv_d k_Lt_parses 30 rfl) (by decide) ?_
      exact sv_ret (pc := 58) (sv_d k_Lt_parses 31 rfl) ⟨_, rfl, rfl⟩ rfl
    · refine sv_aload_n (pc := 12) 0 (sv_d k_Lt_parses 7 rfl) rfl rfl ?_
      refine sv_callV (pc := 13) (ψ := ss_i) (As := []) (rest := []) (c := 77) (sv_d k_Lt_parses 8 rfl) g_Lt_clause w637 in_Lt_clause se_Lt_clause cf3 kd77 (ss_lt (by decide)) rfl (Nat.le_of_ble_eq_true rfl) (V_Lt_clause E (d + 0) s) (Nat.le_of_ble_eq_true rfl) rfl (fun r2 => ?_)
      show sv_V E _ _ _ 16 _ [.int r2.1] (ss_e r2.2) _
      refine sv_if_ne (pc := 16) (tgt := 21) (sv_d k_Lt_parses 9 rfl) (by decide) ?_ ?_
      · refine sv_aload_n (pc := 21) 0 (sv_d k_Lt_parses 12 rfl) rfl rfl ?_
        refine sv_getf (pc := 22) 4 (sv_d k_Lt_parses 13 rfl) cf3 (by decide) w161 kd77 (ss_lt (by decide)) rfl ?_
        refine sv_aload_n (pc := 25) 0 (sv_d k_Lt_parses 14 rfl) rfl rfl ?_
        refine sv_getf (pc := 26) 3 (sv_d k_Lt_parses 15 rfl) cf3 (by decide) w159 kd77 (ss_lt (by decide)) rfl ?_
        refine sv_icmp_ne (pc := 29) (tgt := 34) (sv_d k_Lt_parses 16 rfl) (by decide) ?_ ?_
        · refine sv_iload_n (pc := 34) 1 (sv_d k_Lt_parses 19 rfl) rfl rfl ?_
          refine sv_bipush (pc := 35) (v := (9 : Int32)) (sv_d k_Lt_parses 20 rfl) (by decide) ?_
          refine sv_icmp_eq (pc := 37) (tgt := 49) (sv_d k_Lt_parses 21 rfl) (by decide) ?_ ?_
          · refine sv_iconst (pc := 49) (v := (0 : Int32)) (sv_d k_Lt_parses 26 rfl) (by decide) ?_
            exact sv_ret (pc := 50) (sv_d k_Lt_parses 27 rfl) ⟨_, rfl, rfl⟩ rfl
          · refine sv_aload_n (pc := 40) 0 (sv_d k_Lt_parses 22 rfl) rfl rfl ?_
            refine sv_bipush (pc := 41) (v := (59 : Int32)) (sv_d k_Lt_parses 23 rfl) (by decide) ?_
            refine sv_callV (pc := 43) (ψ := ss_i) (As := [.int (59 : Int32)]) (rest := []) (c := 77) (sv_d k_Lt_parses 24 rfl) g_Lt_takes w718 in_Lt_takes se_Lt_takes cf3 kd77 (ss_lt (by decide)) rfl (Nat.le_of_ble_eq_true rfl) (V_Lt_takes E (d + 33) (59 : Int32) r2.2) (Nat.le_of_ble_eq_true rfl) rfl (fun r3 => ?_)
            show sv_V E _ _ _ 46 _ [.int r3.1] (ss_e r3.2) _
            refine sv_if_ne (pc := 46) (tgt := 51) (sv_d k_Lt_parses 25 rfl) (by decide) ?_ ?_
            · refine ss_letr (fun v4 e_v4 => ?_)
              refine sv_iinc (pc := 51) (v := v4) (lv' := [(1, .int v4), (0, sv_r E 77)]) (sv_d k_Lt_parses 28 rfl) (n := 1) rfl (by rw [e_v4]; rfl) (by decide) rfl ?_
              refine sv_goto (pc := 54) (tgt := 6) (sv_d k_Lt_parses 29 rfl) (by decide) ?_
              exact sv_loc [1, 0] rfl (ih v4 r3.2)
            · refine sv_iconst (pc := 49) (v := (0 : Int32)) (sv_d k_Lt_parses 26 rfl) (by decide) ?_
              exact sv_ret (pc := 50) (sv_d k_Lt_parses 27 rfl) ⟨_, rfl, rfl⟩ rfl
        · refine sv_iconst (pc := 32) (v := (1 : Int32)) (sv_d k_Lt_parses 17 rfl) (by decide) ?_
          exact sv_ret (pc := 33) (sv_d k_Lt_parses 18 rfl) ⟨_, rfl, rfl⟩ rfl
      · refine sv_iconst (pc := 19) (v := (0 : Int32)) (sv_d k_Lt_parses 10 rfl) (by decide) ?_
        exact sv_ret (pc := 20) (sv_d k_Lt_parses 11 rfl) ⟨_, rfl, rfl⟩ rfl
def F_Lt_parses (s : sv_S) : Option (Int32 × sv_S) :=
  (F_Lt_begin s).bind fun r1 =>
  F_Lt_parses_b6 ss_F (0 : Int32) r1
theorem V_Lt_parses (E : sv_E) (d : Nat) (s : sv_S) : sv_V E m_Lt_parses (d + 34) ss_i 0 (lv_args 0 [sv_r E 77]) [] (ss_e s) (F_Lt_parses s) := by
  show sv_V E m_Lt_parses (d + 34) ss_i 0 [(0, sv_r E 77)] [] (ss_e s) _
  unfold F_Lt_parses
  refine sv_aload_n (pc := 0) 0 (sv_d k_Lt_parses 0 rfl) rfl rfl ?_
  refine sv_callV (pc := 1) (ψ := ss_v) (As := []) (rest := []) (c := 77) (sv_d k_Lt_parses 1 rfl) g_Lt_begin w632 in_Lt_begin se_Lt_begin cf3 kd77 (ss_lt (by decide)) rfl (Nat.le_of_ble_eq_true rfl) (V_Lt_begin E (d + 32) s) (Nat.le_of_ble_eq_true rfl) rfl (fun r1 => ?_)
  show sv_V E _ _ _ 4 _ [] (ss_e r1) _
  refine sv_iconst (pc := 4) (v := (0 : Int32)) (sv_d k_Lt_parses 2 rfl) (by decide) ?_
  refine sv_istore_n (pc := 5) (lv' := [(1, .int (0 : Int32)), (0, sv_r E 77)]) (sv_d k_Lt_parses 3 rfl) rfl (by decide) rfl ?_
  exact sv_loc [1, 0] rfl (V_Lt_parses_b6 E d ss_F (0 : Int32) r1)
abbrev m_Ac_send : sv_M := (yX0_send, cX0_send, 6, (some .int))
def t_Ac_send : List (Nat × Instr × Nat) := [(0, .iload_n 1, 1), (1, .iload_n 2, 1), (2, .invokestatic 49, 3), (5, .istore 5, 2), (7, .iload 5, 2), (9, .ifCond .eq 10, 3), (12, .iload 4, 2), (14, .bipush 30, 2), (16, .if_icmp .le 5, 3), (19, .iconst 0, 1), (20, .ireturn, 1), (21, .aload_n 0, 1), (22, .getfield 15, 3), (25, .bipush 20, 2), (27, .if_icmp .ge 14, 3), (30, .aload_n 0, 1), (31, .getfield 11, 3), (34, .aload_n 0, 1), (35, .getfield 15, 3), (38, .iload 5, 2), (40, .iastore, 1), (41, .aload_n 0, 1), (42, .dup, 1), (43, .getfield 15, 3), (46, .iconst 1, 1), (47, .iadd, 1), (48, .putfield 15, 3), (51, .iload 5, 2), (53, .bipush 50, 2), (55, .if_icmp .ge 17, 3), (58, .aload_n 0, 1), (59, .iload 5, 2), (61, .iload_n 3, 1), (62, .iload 4, 2), (64, .iconst 1, 1), (65, .iadd, 1), (66, .invokevirtual 53, 3), (69, .goto 14, 3), (72, .aload_n 0, 1), (73, .iload 5, 2), (75, .iload_n 3, 1), (76, .iload 4, 2), (78, .iconst 1, 1), (79, .iadd, 1), (80, .invokevirtual 57, 3), (83, .ireturn, 1)]
theorem k_Ac_send : sv_tk m_Ac_send.2.1 t_Ac_send := by decide +kernel
theorem g_Ac_send : sv_G m_Ac_send 4 := ⟨by decide +kernel, sv_in 1230 (by decide +kernel) rfl, sv_in 101 (by decide +kernel) rfl, ⟨by decide, by decide⟩, by decide +kernel, by decide⟩
theorem in_Ac_send : Cond.instanceMethod m_Ac_send.1 ∈ sv_T := sv_in 1229 (by decide +kernel) rfl
theorem se_Ac_send : Cond.selects m_Ac_send.1.cls m_Ac_send.1 m_Ac_send.1 ∈ sv_T := sv_in 31 (by decide +kernel) rfl
abbrev m_Ac_upperBody : sv_M := (yX0_upperBody, cX0_upperBody, 4, (some .int))
def t_Ac_upperBody : List (Nat × Instr × Nat) := [(0, .iload_n 1, 1), (1, .lookupswitch (122) #[(10, 51), (11, 58), (12, 75), (20, 89), (30, 107)], 51), (52, .iload_n 2, 1), (53, .aload_n 0, 1), (54, .getfield 41, 3), (57, .iadd, 1), (58, .ireturn, 1), (59, .aload_n 0, 1), (60, .aload_n 0, 1), (61, .getfield 28, 3), (64, .iconst 0, 1), (65, .iload_n 2, 1), (66, .iload_n 3, 1), (67, .invokevirtual 42, 3), (70, .aload_n 0, 1), (71, .getfield 37, 3), (74, .isub, 1), (75, .ireturn, 1), (76, .aload_n 0, 1), (77, .aload_n 0, 1), (78, .getfield 28, 3), (81, .iconst 1, 1), (82, .iload_n 2, 1), (83, .iload_n 3, 1), (84, .invokevirtual 42, 3), (87, .iconst 2, 1), (88, .imul, 1), (89, .ireturn, 1), (90, .aload_n 0, 1), (91, .getstatic 19, 3), (94, .iconst 1, 1), (95, .iaload, 1), (96, .iconst 1, 1), (97, .iload_n 2, 1), (98, .iload_n 3, 1), (99, .invokevirtual 42, 3), (102, .aload_n 0, 1), (103, .getfield 33, 3), (106, .ixor, 1), (107, .ireturn, 1), (108, .aload_n 0, 1), (109, .getstatic 19, 3), (112, .iconst 2, 1), (113, .iaload, 1), (114, .iconst 0, 1), (115, .iload_n 2, 1), (116, .iload_n 3, 1), (117, .invokevirtual 42, 3), (120, .iconst 1, 1), (121, .isub, 1), (122, .ireturn, 1), (123, .aload_n 0, 1), (124, .getstatic 19, 3), (127, .iconst 3, 1), (128, .iaload, 1), (129, .iconst 0, 1), (130, .iload_n 2, 1), (131, .iconst 2, 1), (132, .imul, 1), (133, .iload_n 3, 1), (134, .invokevirtual 42, 3), (137, .ireturn, 1)]
theorem k_Ac_upperBody : sv_tk m_Ac_upperBody.2.1 t_Ac_upperBody := by decide +kernel
theorem g_Ac_upperBody : sv_G m_Ac_upperBody 3 := ⟨by decide +kernel, sv_in 1241 (by decide +kernel) rfl, sv_in 101 (by decide +kernel) rfl, ⟨by decide, by decide⟩, by decide +kernel, by decide⟩
theorem in_Ac_upperBody : Cond.instanceMethod m_Ac_upperBody.1 ∈ sv_T := sv_in 1240 (by decide +kernel) rfl
theorem se_Ac_upperBody : Cond.selects m_Ac_upperBody.1.cls m_Ac_upperBody.1 m_Ac_upperBody.1 ∈ sv_T := sv_in 32 (by decide +kernel) rfl
abbrev m_Ac_lowerBody : sv_M := (yX0_lowerBody, cX0_lowerBody, 4, (some .int))
def t_Ac_lowerBody : List (Nat × Instr × Nat) := [(0, .iload_n 1, 1), (1, .lookupswitch (102) #[(50, 43), (51, 68), (60, 83), (70, 97)], 43), (44, .aload_n 0, 1), (45, .getstatic 19, 3), (48, .iconst 4, 1), (49, .iaload, 1), (50, .iconst 2, 1), (51, .iload_n 2, 1), (52, .iload_n 3, 1), (53, .invokevirtual 42, 3), (56, .aload_n 0, 1), (57, .aload_n 0, 1), (58, .getfield 28, 3), (61, .iconst 1, 1), (62, .iconst 1, 1), (63, .iload_n 3, 1), (64, .invokevirtual 42, 3), (67, .iadd, 1), (68, .ireturn, 1), (69, .aload_n 0, 1), (70, .getstatic 19, 3), (73, .iconst 4, 1), (74, .iaload, 1), (75, .iconst 1, 1), (76, .iload_n 2, 1), (77, .iload_n 3, 1), (78, .invokevirtual 42, 3), (81, .iconst 4, 1), (82, .iadd, 1), (83, .ireturn, 1), (84, .aload_n 0, 1), (85, .getstatic 19, 3), (88, .iconst 5, 1), (89, .iaload, 1), (90, .iconst 2, 1), (91, .iload_n 2, 1), (92, .iload_n 3, 1), (93, .invokevirtual 42, 3), (96, .ineg, 1), (97, .ireturn, 1), (98, .aload_n 0, 1), (99, .getfield 33, 3), (102, .ireturn, 1), (103, .aload_n 0, 1), (104, .aload_n 0, 1), (105, .getfield 28, 3), (108, .iconst 0, 1), (109, .iload_n 2, 1), (110, .iload_n 3, 1), (111, .invokevirtual 42, 3), (114, .aload_n 0, 1), (115, .getstatic 19, 3), (118, .bipush 6, 2), (120, .iaload, 1), (121, .iconst 2, 1), (122, .iload_n 2, 1), (123, .iload_n 3, 1), (124, .invokevirtual 42, 3), (127, .iadd, 1), (128, .ireturn, 1)]
theorem k_Ac_lowerBody : sv_tk m_Ac_lowerBody.2.1 t_Ac_lowerBody := by decide +kernel
theorem g_Ac_lowerBody : sv_G m_Ac_lowerBody 3 := ⟨by decide +kernel, sv_in 1245 (by decide +kernel) rfl, sv_in 101 (by decide +kernel) rfl, ⟨by decide, by decide⟩, by decide +kernel, by decide⟩
theorem in_Ac_lowerBody : Cond.instanceMethod m_Ac_lowerBody.1 ∈ sv_T := sv_in 1244 (by decide +kernel) rfl
theorem se_Ac_lowerBody : Cond.selects m_Ac_lowerBody.1.cls m_Ac_lowerBody.1 m_Ac_lowerBody.1 ∈ sv_T := sv_in 33 (by decide +kernel) rfl
def F_Ac_send_b41o (fu : Int32 → Int32 → Int32 → sv_S → Option (Int32 × sv_S)) (fl : Int32 → Int32 → Int32 → sv_S → Option (Int32 × sv_S)) (x3 : Int32) (x4 : Int32) (x5 : Int32) (s : sv_S) : Option (Int32 × sv_S) :=
  ss_let (ss_setI s 175 1 ((s.1 175 1) + (1 : Int32))) fun s2 =>
  if (50 : Int32) ≤ x5 then
    (fl x5 x3 (x4 + (1 : Int32)) s2).bind fun r3 =>
    some (r3.1, r3.2)
  else
  (fu x5 x3 (x4 + (1 : Int32)) s2).bind fun r4 =>
  some (r4.1, r4.2)
theorem V_Ac_send_b41o (E : sv_E) (d : Nat) (fu : Int32 → Int32 → Int32 → sv_S → Option (Int32 × sv_S)) (Hfu : ∀ (x1 : Int32) (x2 : Int32) (x3 : Int32) (s : sv_S), sv_V E m_Ac_upperBody (d + 0) ss_i 0 (lv_args 0 [sv_r E 175, .int x1, .int x2, .int x3]) [] (ss_e s) (fu x1 x2 x3 s)) (fl : Int32 → Int32 → Int32 → sv_S → Option (Int32 × sv_S)) (Hfl : ∀ (x1 : Int32) (x2 : Int32) (x3 : Int32) (s : sv_S), sv_V E m_Ac_lowerBody (d + 0) ss_i 0 (lv_args 0 [sv_r E 175, .int x1, .int x2, .int x3]) [] (ss_e s) (fl x1 x2 x3 s)) (x3 : Int32) (x4 : Int32) (x5 : Int32) (s : sv_S) : sv_V E m_Ac_send (d + 1) ss_i 41 [(0, sv_r E 175), (3, .int x3), (4, .int x4), (5, .int x5)] [] (ss_e s) (F_Ac_send_b41o fu fl x3 x4 x5 s) := by
  unfold F_Ac_send_b41o
  refine sv_aload_n (pc := 41) 0 (sv_d k_Ac_send 21 rfl) rfl rfl ?_
  refine sv_dup (pc := 42) (sv_d k_Ac_send 22 rfl) rfl ?_
  refine sv_getf (pc := 43) 1 (sv_d k_Ac_send 23 rfl) cf0 (by decide) w474 kd175 (ss_lt (by decide)) rfl ?_
  refine sv_iconst (pc := 46) (v := (1 : Int32)) (sv_d k_Ac_send 24 rfl) (by decide) ?_
  refine sv_iadd (pc := 47) (sv_d k_Ac_send 25 rfl) ?_
  refine ss_putI (pc := 48) 1 (sv_d k_Ac_send 26 rfl) cf0 (by decide) rfl w474 kd175 (ss_lt (by decide)) rfl rfl (fun _ => rfl) (ss_lets (fun s2 e_s2 => ?_))
  refine sv_iload (pc := 51) 3 (sv_d k_Ac_send 27 rfl) rfl ?_
  refine sv_bipush (pc := 53) (v := (50 : Int32)) (sv_d k_Ac_send 28 rfl) (by decide) ?_
  refine sv_icmp_ge (pc := 55) (tgt := 72) (sv_d k_Ac_send 29 rfl) (by decide) ?_ ?_
  · refine sv_aload_n (pc := 72) 0 (sv_d k_Ac_send 38 rfl) rfl rfl ?_
    refine sv_iload (pc := 73) 3 (sv_d k_Ac_send 39 rfl) rfl ?_
    refine sv_iload_n (pc := 75) 1 (sv_d k_Ac_send 40 rfl) rfl rfl ?_
    refine sv_iload (pc := 76) 2 (sv_d k_Ac_send 41 rfl) rfl ?_
    refine sv_iconst (pc := 78) (v := (1 : Int32)) (sv_d k_Ac_send 42 rfl) (by decide) ?_
    refine sv_iadd (pc := 79) (sv_d k_Ac_send 43 rfl) ?_
    refine sv_callV (pc := 80) (ψ := ss_i) (As := [.int x5, .int x3, .int (x4 + (1 : Int32))]) (rest := []) (c := 175) (sv_d k_Ac_send 44 rfl) g_Ac_lowerBody w1242 in_Ac_lowerBody se_Ac_lowerBody cf0 kd175 (ss_lt (by decide)) rfl (Nat.le_of_ble_eq_true rfl) (Hfl x5 x3 (x4 + (1 : Int32)) s2) (Nat.le_of_ble_eq_true rfl) rfl (fun r3 => ?_)
    show sv_V E _ _ _ 83 _ [.int r3.1] (ss_e r3.2) _
    exact sv_ret (pc := 83) (sv_d k_Ac_send 45 rfl) ⟨_, rfl, rfl⟩ rfl
  · refine sv_aload_n (pc := 58) 0 (sv_d k_Ac_send 30 rfl) rfl rfl ?_
    refine sv_iload (pc := 59) 3 (sv_d k_Ac_send 31 rfl) rfl ?_
    refine sv_iload_n (pc := 61) 1 (sv_d k_Ac_send 32 rfl) rfl rfl ?_
    refine sv_iload (pc := 62) 2 (sv_d k_Ac_send 33 rfl) rfl ?_
    refine sv_iconst (pc := 64) (v := (1 : Int32)) (sv_d k_Ac_send 34 rfl) (by decide) ?_
    refine sv_iadd (pc := 65) (sv_d k_Ac_send 35 rfl) ?_
    refine sv_callV (pc := 66) (ψ := ss_i) (As := [.int x5, .int x3, .int (x4 + (1 : Int32))]) (rest := []) (c := 175) (sv_d k_Ac_send 36 rfl) g_Ac_upperBody w1238 in_Ac_upperBody se_Ac_upperBody cf0 kd175 (ss_lt (by decide)) rfl (Nat.le_of_ble_eq_true rfl) (Hfu x5 x3 (x4 + (1 : Int32)) s2) (Nat.le_of_ble_eq_true rfl) rfl (fun r4 => ?_)
    show sv_V E _ _ _ 69 _ [.int r4.1] (ss_e r4.2) _
    refine sv_goto (pc := 69) (tgt := 83) (sv_d k_Ac_send 37 rfl) (by decide) ?_
    exact sv_ret (pc := 83) (sv_d k_Ac_send 45 rfl) ⟨_, rfl, rfl⟩ rfl
def F_Ac_send_o (fu : Int32 → Int32 → Int32 → sv_S → Option (Int32 × sv_S)) (fl : Int32 → Int32 → Int32 → sv_S → Option (Int32 × sv_S)) (x1 : Int32) (x2 : Int32) (x3 : Int32) (x4 : Int32) (s : sv_S) : Option (Int32 × sv_S) :=
  (F_Ac_bodyFrom x1 x2 s).bind fun r1 =>
  if r1 = 0 then
    some ((0 : Int32), s)
  else
  if x4 ≤ (30 : Int32) then
    if (20 : Int32) ≤ (s.1 175 1) then
      F_Ac_send_b41o fu fl x3 x4 r1 s
    else
    if sv_ib (s.1 175 1) 20 = true then
      ss_let (ss_setI s 176 (s.1 175 1).toNatClampNeg r1) fun s5 =>
      F_Ac_send_b41o fu fl x3 x4 r1 s5
    else none
  else
  some ((0 : Int32), s)
theorem V_Ac_send_o (E : sv_E) (d : Nat) (fu : Int32 → Int32 → Int32 → sv_S → Option (Int32 × sv_S)) (Hfu : ∀ (x1 : Int32) (x2 : Int32) (x3 : Int32) (s : sv_S), sv_V E m_Ac_upperBody (d + 0) ss_i 0 (lv_args 0 [sv_r E 175, .int x1, .int x2, .int x3]) [] (ss_e s) (fu x1 x2 x3 s)) (fl : Int32 → Int32 → Int32 → sv_S → Option (Int32 × sv_S)) (Hfl : ∀ (x1 : Int32) (x2 : Int32) (x3 : Int32) (s : sv_S), sv_V E m_Ac_lowerBody (d + 0) ss_i 0 (lv_args 0 [sv_r E 175, .int x1, .int x2, .int x3]) [] (ss_e s) (fl x1 x2 x3 s)) (x1 : Int32) (x2 : Int32) (x3 : Int32) (x4 : Int32) (s : sv_S) : sv_V E m_Ac_send (d + 1) ss_i 0 (lv_args 0 [sv_r E 175, .int x1, .int x2, .int x3, .int x4]) [] (ss_e s) (F_Ac_send_o fu fl x1 x2 x3 x4 s) := by
  show sv_V E m_Ac_send (d + 1) ss_i 0 [(0, sv_r E 175), (1, .int x1), (2, .int x2), (3, .int x3), (4, .int x4)] [] (ss_e s) _
  unfold F_Ac_send_o
  refine sv_iload_n (pc := 0) 1 (sv_d k_Ac_send 0 rfl) rfl rfl ?_
  refine sv_iload_n (pc := 1) 2 (sv_d k_Ac_send 1 rfl) rfl rfl ?_
  refine sv_callS (pc := 2) (ψ := (ss_pi s)) (As := [.int x1, .int x2]) (rest := []) (sv_d k_Ac_send 2 rfl) g_Ac_bodyFrom w1231 st_Ac_bodyFrom rfl (Nat.le_of_ble_eq_true rfl) (V_Ac_bodyFrom E (d + 0) x1 x2 s) (Nat.le_of_ble_eq_true rfl) rfl (fun r1 => ?_)
  show sv_V E _ _ _ 5 _ [.int r1] (ss_e s) _
  refine sv_istore (pc := 5) (lv' := [(5, .int r1), (0, sv_r E 175), (1, .int x1), (2, .int x2), (3, .int x3), (4, .int x4)]) (sv_d k_Ac_send 3 rfl) (by decide) rfl ?_
  refine sv_iload (pc := 7) 0 (sv_d k_Ac_send 4 rfl) rfl ?_
  refine sv_if_eq (pc := 9) (tgt := 19) (sv_d k_Ac_send 5 rfl) (by decide) ?_ ?_
  · refine sv_iconst (pc := 19) (v := (0 : Int32)) (sv_d k_Ac_send 9 rfl) (by decide) ?_
    exact sv_ret (pc := 20) (sv_d k_Ac_send 10 rfl) ⟨_, rfl, rfl⟩ rfl
  · refine sv_iload (pc := 12) 5 (sv_d k_Ac_send 6 rfl) rfl ?_
    refine sv_bipush (pc := 14) (v := (30 : Int32)) (sv_d k_Ac_send 7 rfl) (by decide) ?_
    refine sv_icmp_le (pc := 16) (tgt := 21) (sv_d k_Ac_send 8 rfl) (by decide) ?_ ?_
    · refine sv_aload_n (pc := 21) 1 (sv_d k_Ac_send 11 rfl) rfl rfl ?_
      refine sv_getf (pc := 22) 1 (sv_d k_Ac_send 12 rfl) cf0 (by decide) w474 kd175 (ss_lt (by decide)) rfl ?_
      refine sv_bipush (pc := 25) (v := (20 : Int32)) (sv_d k_Ac_send 13 rfl) (by decide) ?_
      refine sv_icmp_ge (pc := 27) (tgt := 41) (sv_d k_Ac_send 14 rfl) (by decide) ?_ ?_
      · exact sv_loc [1, 4, 5, 0] rfl (V_Ac_send_b41o E d fu Hfu fl Hfl x3 x4 r1 s)
      · refine sv_aload_n (pc := 30) 1 (sv_d k_Ac_send 15 rfl) rfl rfl ?_
        refine sv_getf (pc := 31) 0 (sv_d k_Ac_send 16 rfl) cf0 (by decide) w472 kd175 (ss_lt (by decide)) (lr_175_0 E _) ?_
        refine sv_aload_n (pc := 34) 1 (sv_d k_Ac_send 17 rfl) rfl rfl ?_
        refine sv_getf (pc := 35) 1 (sv_d k_Ac_send 18 rfl) cf0 (by decide) w474 kd175 (ss_lt (by decide)) rfl ?_
        refine sv_iload (pc := 38) 0 (sv_d k_Ac_send 19 rfl) rfl ?_
        refine ss_iast (pc := 40) (n := 20) (sv_d k_Ac_send 20 rfl) kd176 (by decide) (ss_lt (by decide)) rfl (ss_lets (fun s5 e_s5 => ?_))
        exact sv_loc [1, 4, 5, 0] rfl (V_Ac_send_b41o E d fu Hfu fl Hfl x3 x4 r1 s5)
    · refine sv_iconst (pc := 19) (v := (0 : Int32)) (sv_d k_Ac_send 9 rfl) (by decide) ?_
      exact sv_ret (pc := 20) (sv_d k_Ac_send 10 rfl) ⟨_, rfl, rfl⟩ rfl
def F_Ac_upperBody_o (fs : Int32 → Int32 → Int32 → Int32 → sv_S → Option (Int32 × sv_S)) (x1 : Int32) (x2 : Int32) (x3 : Int32) (s : sv_S) : Option (Int32 × sv_S) :=
  if x1 = (10 : Int32) then
    some (x2 + (s.1 175 5), s)
  else if x1 = (11 : Int32) then
    (fs (s.1 175 2) (0 : Int32) x2 x3 s).bind fun r2 =>
    some (r2.1 - (r2.2.1 175 4), r2.2)
  else if x1 = (12 : Int32) then
    (fs (s.1 175 2) (1 : Int32) x2 x3 s).bind fun r4 =>
    some (r4.1 * (2 : Int32), r4.2)
  else if x1 = (20 : Int32) then
    if sv_ib (1 : Int32) 7 = true then
      (fs (s.1 1 (1 : Int32).toNatClampNeg) (1 : Int32) x2 x3 s).bind fun r6 =>
      some (r6.1 ^^^ (r6.2.1 175 3), r6.2)
    else none
  else if x1 = (30 : Int32) then
    if sv_ib (2 : Int32) 7 = true then
      (fs (s.1 1 (2 : Int32).toNatClampNeg) (0 : Int32) x2 x3 s).bind fun r8 =>
      some (r8.1 - (1 : Int32), r8.2)
    else none
  else 
  if sv_ib (3 : Int32) 7 = true then
    (fs (s.1 1 (3 : Int32).toNatClampNeg) (0 : Int32) (x2 * (2 : Int32)) x3 s).bind fun r10 =>
    some (r10.1, r10.2)
  else none
theorem V_Ac_upperBody_o (E : sv_E) (d : Nat) (fs : Int32 → Int32 → Int32 → Int32 → sv_S → Option (Int32 × sv_S)) (Hfs : ∀ (x1 : Int32) (x2 : Int32) (x3 : Int32) (x4 : Int32) (s : sv_S), sv_V E m_Ac_send (d + 0) ss_i 0 (lv_args 0 [sv_r E 175, .int x1, .int x2, .int x3, .int x4]) [] (ss_e s) (fs x1 x2 x3 x4 s)) (x1 : Int32) (x2 : Int32) (x3 : Int32) (s : sv_S) : sv_V E m_Ac_upperBody (d + 1) ss_i 0 (lv_args 0 [sv_r E 175, .int x1, .int x2, .int x3]) [] (ss_e s) (F_Ac_upperBody_o fs x1 x2 x3 s) := by
  show sv_V E m_Ac_upperBody (d + 1) ss_i 0 [(0, sv_r E 175), (1, .int x1), (2, .int x2), (3, .int x3)] [] (ss_e s) _
  unfold F_Ac_upperBody_o
  refine sv_iload_n (pc := 0) 1 (sv_d k_Ac_upperBody 0 rfl) rfl rfl ?_
  refine ss_dec (fun hh1 => ?_) (fun hh1 => ?_)
  · refine sv_lk (pc := 1) (tgt := 52) (off := 51) (sv_d k_Ac_upperBody 1 rfl) (by decide) (by subst hh1; rfl) (by decide) ?_
    refine sv_iload_n (pc := 52) 2 (sv_d k_Ac_upperBody 2 rfl) rfl rfl ?_
    refine sv_aload_n (pc := 53) 0 (sv_d k_Ac_upperBody 3 rfl) rfl rfl ?_
    refine sv_getf (pc := 54) 5 (sv_d k_Ac_upperBody 4 rfl) cf0 (by decide) w479 kd175 (ss_lt (by decide)) rfl ?_
    refine sv_iadd (pc := 57) (sv_d k_Ac_upperBody 5 rfl) ?_
    exact sv_ret (pc := 58) (sv_d k_Ac_upperBody 6 rfl) ⟨_, rfl, rfl⟩ rfl
  · refine ss_dec (fun hh3 => ?_) (fun hh3 => ?_)
    · refine sv_lk (pc := 1) (tgt := 59) (off := 58) (sv_d k_Ac_upperBody 1 rfl) (by decide) (by subst hh3; rfl) (by decide) ?_
      refine sv_aload_n (pc := 59) 0 (sv_d k_Ac_upperBody 7 rfl) rfl rfl ?_
      refine sv_aload_n (pc := 60) 0 (sv_d k_Ac_upperBody 8 rfl) rfl rfl ?_
      refine sv_getf (pc := 61) 2 (sv_d k_Ac_upperBody 9 rfl) cf0 (by decide) w476 kd175 (ss_lt (by decide)) rfl ?_
      refine sv_iconst (pc := 64) (v := (0 : Int32)) (sv_d k_Ac_upperBody 10 rfl) (by decide) ?_
      refine sv_iload_n (pc := 65) 2 (sv_d k_Ac_upperBody 11 rfl) rfl rfl ?_
      refine sv_iload_n (pc := 66) 3 (sv_d k_Ac_upperBody 12 rfl) rfl rfl ?_
      refine sv_callV (pc := 67) (ψ := ss_i) (As := [.int (s.1 175 2), .int (0 : Int32), .int x2, .int x3]) (rest := []) (c := 175) (sv_d k_Ac_upperBody 13 rfl) g_Ac_send w1227 in_Ac_send se_Ac_send cf0 kd175 (ss_lt (by decide)) rfl (Nat.le_of_ble_eq_true rfl) (Hfs (s.1 175 2) (0 : Int32) x2 x3 s) (Nat.le_of_ble_eq_true rfl) rfl (fun r2 => ?_)
      show sv_V E _ _ _ 70 _ [.int r2.1] (ss_e r2.2) _
      refine sv_aload_n (pc := 70) 0 (sv_d k_Ac_upperBody 14 rfl) rfl rfl ?_
      refine sv_getf (pc := 71) 4 (sv_d k_Ac_upperBody 15 rfl) cf0 (by decide) w478 kd175 (ss_lt (by decide)) rfl ?_
      refine sv_isub (pc := 74) (sv_d k_Ac_upperBody 16 rfl) ?_
      exact sv_ret (pc := 75) (sv_d k_Ac_upperBody 17 rfl) ⟨_, rfl, rfl⟩ rfl
    · refine ss_dec (fun hh5 => ?_) (fun hh5 => ?_)
      · refine sv_lk (pc := 1) (tgt := 76) (off := 75) (sv_d k_Ac_upperBody 1 rfl) (by decide) (by subst hh5; rfl) (by decide) ?_
        refine sv_aload_n (pc := 76) 0 (sv_d k_Ac_upperBody 18 rfl) rfl rfl ?_
        refine sv_aload_n (pc := 77) 0 (sv_d k_Ac_upperBody 19 rfl) rfl rfl ?_
        refine sv_getf (pc := 78) 2 (sv_d k_Ac_upperBody 20 rfl) cf0 (by decide) w476 kd175 (ss_lt (by decide)) rfl ?_
        refine sv_iconst (pc := 81) (v := (1 : Int32)) (sv_d k_Ac_upperBody 21 rfl) (by decide) ?_
        refine sv_iload_n (pc := 82) 2 (sv_d k_Ac_upperBody 22 rfl) rfl rfl ?_
        refine sv_iload_n (pc := 83) 3 (sv_d k_Ac_upperBody 23 rfl) rfl rfl ?_
        refine sv_callV (pc := 84) (ψ := ss_i) (As := [.int (s.1 175 2), .int (1 : Int32), .int x2, .int x3]) (rest := []) (c := 175) (sv_d k_Ac_upperBody 24 rfl) g_Ac_send w1227 in_Ac_send se_Ac_send cf0 kd175 (ss_lt (by decide)) rfl (Nat.le_of_ble_eq_true rfl) (Hfs (s.1 175 2) (1 : Int32) x2 x3 s) (Nat.le_of_ble_eq_true rfl) rfl (fun r4 => ?_)
        show sv_V E _ _ _ 87 _ [.int r4.1] (ss_e r4.2) _
        refine sv_iconst (pc := 87) (v := (2 : Int32)) (sv_d k_Ac_upperBody 25 rfl) (by decide) ?_
        refine sv_imul (pc := 88) (sv_d k_Ac_upperBody 26 rfl) ?_
        exact sv_ret (pc := 89) (sv_d k_Ac_upperBody 27 rfl) ⟨_, rfl, rfl⟩ rfl
      · refine ss_dec (fun hh7 => ?_) (fun hh7 => ?_)
        · refine sv_lk (pc := 1) (tgt := 90) (off := 89) (sv_d k_Ac_upperBody 1 rfl) (by decide) (by subst hh7; rfl) (by decide) ?_
          refine sv_aload_n (pc := 90) 0 (sv_d k_Ac_upperBody 28 rfl) rfl rfl ?_
          refine sv_gets (pc := 91) (ss_st1 E) (sv_d k_Ac_upperBody 29 rfl) w1236 ?_
          refine sv_iconst (pc := 94) (v := (1 : Int32)) (sv_d k_Ac_upperBody 30 rfl) (by decide) ?_
          refine ss_iald (pc := 95) (n := 7) (sv_d k_Ac_upperBody 31 rfl) kd1 (ss_lt (by decide)) rfl ?_
          refine sv_iconst (pc := 96) (v := (1 : Int32)) (sv_d k_Ac_upperBody 32 rfl) (by decide) ?_
          refine sv_iload_n (pc := 97) 2 (sv_d k_Ac_upperBody 33 rfl) rfl rfl ?_
          refine sv_iload_n (pc := 98) 3 (sv_d k_Ac_upperBody 34 rfl) rfl rfl ?_
          refine sv_callV (pc := 99) (ψ := ss_i) (As := [.int (s.1 1 (1 : Int32).toNatClampNeg), .int (1 : Int32), .int x2, .int x3]) (rest := []) (c := 175) (sv_d k_Ac_upperBody 35 rfl) g_Ac_send w1227 in_Ac_send se_Ac_send cf0 kd175 (ss_lt (by decide)) rfl (Nat.le_of_ble_eq_true rfl) (Hfs (s.1 1 (1 : Int32).toNatClampNeg) (1 : Int32) x2 x3 s) (Nat.le_of_ble_eq_true rfl) rfl (fun r6 => ?_)
          show sv_V E _ _ _ 102 _ [.int r6.1] (ss_e r6.2) _
          refine sv_aload_n (pc := 102) 0 (sv_d k_Ac_upperBody 36 rfl) rfl rfl ?_
          refine sv_getf (pc := 103) 3 (sv_d k_Ac_upperBody 37 rfl) cf0 (by decide) w477 kd175 (ss_lt (by decide)) rfl ?_
          refine sv_ixor (pc := 106) (sv_d k_Ac_upperBody 38 rfl) ?_
          exact sv_ret (pc := 107) (sv_d k_Ac_upperBody 39 rfl) ⟨_, rfl, rfl⟩ rfl
        · refine ss_dec (fun hh9 => ?_) (fun hh9 => ?_)
          · refine sv_lk (pc := 1) (tgt := 108) (off := 107) (sv_d k_Ac_upperBody 1 rfl) (by decide) (by subst hh9; rfl) (by decide) ?_
            refine sv_aload_n (pc := 108) 0 (sv_d k_Ac_upperBody 40 rfl) rfl rfl ?_
            refine sv_gets (pc := 109) (ss_st1 E) (sv_d k_Ac_upperBody 41 rfl) w1236 ?_
            refine sv_iconst (pc := 112) (v := (2 : Int32)) (sv_d k_Ac_upperBody 42 rfl) (by decide) ?_
            refine ss_iald (pc := 113) (n := 7) (sv_d k_Ac_upperBody 43 rfl) kd1 (ss_lt (by decide)) rfl ?_
            refine sv_iconst (pc := 114) (v := (0 : Int32)) (sv_d k_Ac_upperBody 44 rfl) (by decide) ?_
            refine sv_iload_n (pc := 115) 2 (sv_d k_Ac_upperBody 45 rfl) rfl rfl ?_
            refine sv_iload_n (pc := 116) 3 (sv_d k_Ac_upperBody 46 rfl) rfl rfl ?_
            refine sv_callV (pc := 117) (ψ := ss_i) (As := [.int (s.1 1 (2 : Int32).toNatClampNeg), .int (0 : Int32), .int x2, .int x3]) (rest := []) (c := 175) (sv_d k_Ac_upperBody 47 rfl) g_Ac_send w1227 in_Ac_send se_Ac_send cf0 kd175 (ss_lt (by decide)) rfl (Nat.le_of_ble_eq_true rfl) (Hfs (s.1 1 (2 : Int32).toNatClampNeg) (0 : Int32) x2 x3 s) (Nat.le_of_ble_eq_true rfl) rfl (fun r8 => ?_)
            show sv_V E _ _ _ 120 _ [.int r8.1] (ss_e r8.2) _
            refine sv_iconst (pc := 120) (v := (1 : Int32)) (sv_d k_Ac_upperBody 48 rfl) (by decide) ?_
            refine sv_isub (pc := 121) (sv_d k_Ac_upperBody 49 rfl) ?_
            exact sv_ret (pc := 122) (sv_d k_Ac_upperBody 50 rfl) ⟨_, rfl, rfl⟩ rfl
          · refine sv_lk (pc := 1) (tgt := 123) (off := 122) (sv_d k_Ac_upperBody 1 rfl) (by decide) (by rw [show (#[(10, 51), (11, 58), (12, 75), (20, 89), (30, 107)] : Array (Int × Int)).toList = [(10, 51), (11, 58), (12, 75), (20, 89), (30, 107)] from rfl]; rw [lv_osw (a := 10) hh1 (by decide), lv_osw (a := 11) hh3 (by decide), lv_osw (a := 12) hh5 (by decide), lv_osw (a := 20) hh7 (by decide), lv_osw (a := 30) hh9 (by decide)]; rfl) (by decide) ?_
            refine sv_aload_n (pc := 123) 0 (sv_d k_Ac_upperBody 51 rfl) rfl rfl ?_
            refine sv_gets (pc := 124) (ss_st1 E) (sv_d k_Ac_upperBody 52 rfl) w1236 ?_
            refine sv_iconst (pc := 127) (v := (3 : Int32)) (sv_d k_Ac_upperBody 53 rfl) (by decide) ?_
            refine ss_iald (pc := 128) (n := 7) (sv_d k_Ac_upperBody 54 rfl) kd1 (ss_lt (by decide)) rfl ?_
            refine sv_iconst (pc := 129) (v := (0 : Int32)) (sv_d k_Ac_upperBody 55 rfl) (by decide) ?_
            refine sv_iload_n (pc := 130) 2 (sv_d k_Ac_upperBody 56 rfl) rfl rfl ?_
            refine sv_iconst (pc := 131) (v := (2 : Int32)) (sv_d k_Ac_upperBody 57 rfl) (by decide) ?_
            refine sv_imul (pc := 132) (sv_d k_Ac_upperBody 58 rfl) ?_
            refine sv_iload_n (pc := 133) 3 (sv_d k_Ac_upperBody 59 rfl) rfl rfl ?_
            refine sv_callV (pc := 134) (ψ := ss_i) (As := [.int (s.1 1 (3 : Int32).toNatClampNeg), .int (0 : Int32), .int (x2 * (2 : Int32)), .int x3]) (rest := []) (c := 175) (sv_d k_Ac_upperBody 60 rfl) g_Ac_send w1227 in_Ac_send se_Ac_send cf0 kd175 (ss_lt (by decide)) rfl (Nat.le_of_ble_eq_true rfl) (Hfs (s.1 1 (3 : Int32).toNatClampNeg) (0 : Int32) (x2 * (2 : Int32)) x3 s) (Nat.le_of_ble_eq_true rfl) rfl (fun r10 => ?_)
            show sv_V E _ _ _ 137 _ [.int r10.1] (ss_e r10.2) _
            exact sv_ret (pc := 137) (sv_d k_Ac_upperBody 61 rfl) ⟨_, rfl, rfl⟩ rfl
def F_Ac_lowerBody_o (fs : Int32 → Int32 → Int32 → Int32 → sv_S → Option (Int32 × sv_S)) (x1 : Int32) (x2 : Int32) (x3 : Int32) (s : sv_S) : Option (Int32 × sv_S) :=
  if x1 = (50 : Int32) then
    if sv_ib (4 : Int32) 7 = true then
      (fs (s.1 1 (4 : Int32).toNatClampNeg) (2 : Int32) x2 x3 s).bind fun r1 =>
      (fs (r1.2.1 175 2) (1 : Int32) (1 : Int32) x3 r1.2).bind fun r2 =>
      some (r1.1 + r2.1, r2.2)
    else none
  else if x1 = (51 : Int32) then
    if sv_ib (4 : Int32) 7 = true then
      (fs (s.1 1 (4 : Int32).toNatClampNeg) (1 : Int32) x2 x3 s).bind fun r4 =>
      some (r4.1 + (4 : Int32), r4.2)
    else none
  else if x1 = (60 : Int32) then
    if sv_ib (5 : Int32) 7 = true then
      (fs (s.1 1 (5 : Int32).toNatClampNeg) (2 : Int32) x2 x3 s).bind fun r6 =>
      some (-r6.1, r6.2)
    else none
  else if x1 = (70 : Int32) then
    some (s.1 175 3, s)
  else 
  (fs (s.1 175 2) (0 : Int32) x2 x3 s).bind fun r9 =>
  if sv_ib (6 : Int32) 7 = true then
    (fs (r9.2.1 1 (6 : Int32).toNatClampNeg) (2 : Int32) x2 x3 r9.2).bind fun r10 =>
    some (r9.1 + r10.1, r10.2)
  else none
theorem V_Ac_lowerBody_o (E : sv_E) (d : Nat) (fs : Int32 → Int32 → Int32 → Int32 → sv_S → Option (Int32 × sv_S)) (Hfs : ∀ (x1 : Int32) (x2 : Int32) (x3 : Int32) (x4 : Int32) (s : sv_S), sv_V E m_Ac_send (d + 0) ss_i 0 (lv_args 0 [sv_r E 175, .int x1, .int x2, .int x3, .int x4]) [] (ss_e s) (fs x1 x2 x3 x4 s)) (x1 : Int32) (x2 : Int32) (x3 : Int32) (s : sv_S) : sv_V E m_Ac_lowerBody (d + 1) ss_i 0 (lv_args 0 [sv_r E 175, .int x1, .int x2, .int x3]) [] (ss_e s) (F_Ac_lowerBody_o fs x1 x2 x3 s) := by
  show sv_V E m_Ac_lowerBody (d + 1) ss_i 0 [(0, sv_r E 175), (1, .int x1), (2, .int x2), (3, .int x3)] [] (ss_e s) _
  unfold F_Ac_lowerBody_o
  refine sv_iload_n (pc := 0) 1 (sv_d k_Ac_lowerBody 0 rfl) rfl rfl ?_
  refine ss_dec (fun hh3 => ?_) (fun hh3 => ?_)
  · refine sv_lk (pc := 1) (tgt := 44) (off := 43) (sv_d k_Ac_lowerBody 1 rfl) (by decide) (by subst hh3; rfl) (by decide) ?_
    refine sv_aload_n (pc := 44) 0 (sv_d k_Ac_lowerBody 2 rfl) rfl rfl ?_
    refine sv_gets (pc := 45) (ss_st1 E) (sv_d k_Ac_lowerBody 3 rfl) w1236 ?_
    refine sv_iconst (pc := 48) (v := (4 : Int32)) (sv_d k_Ac_lowerBody 4 rfl) (by decide) ?_
    refine ss_iald (pc := 49) (n := 7) (sv_d k_Ac_lowerBody 5 rfl) kd1 (ss_lt (by decide)) rfl ?_
    refine sv_iconst (pc := 50) (v := (2 : Int32)) (sv_d k_Ac_lowerBody 6 rfl) (by decide) ?_
    refine sv_iload_n (pc := 51) 2 (sv_d k_Ac_lowerBody 7 rfl) rfl rfl ?_
    refine sv_iload_n (pc := 52) 3 (sv_d k_Ac_lowerBody 8 rfl) rfl rfl ?_
    refine sv_callV (pc := 53) (ψ := ss_i) (As := [.int (s.1 1 (4 : Int32).toNatClampNeg), .int (2 : Int32), .int x2, .int x3]) (rest := []) (c := 175) (sv_d k_Ac_lowerBody 9 rfl) g_Ac_send w1227 in_Ac_send se_Ac_send cf0 kd175 (ss_lt (by decide)) rfl (Nat.le_of_ble_eq_true rfl) (Hfs (s.1 1 (4 : Int32).toNatClampNeg) (2 : Int32) x2 x3 s) (Nat.le_of_ble_eq_true rfl) rfl (fun r1 => ?_)
    show sv_V E _ _ _ 56 _ [.int r1.1] (ss_e r1.2) _
    refine sv_aload_n (pc := 56) 0 (sv_d k_Ac_lowerBody 10 rfl) rfl rfl ?_
    refine sv_aload_n (pc := 57) 0 (sv_d k_Ac_lowerBody 11 rfl) rfl rfl ?_
    refine sv_getf (pc := 58) 2 (sv_d k_Ac_lowerBody 12 rfl) cf0 (by decide) w476 kd175 (ss_lt (by decide)) rfl ?_
    refine sv_iconst (pc := 61) (v := (1 : Int32)) (sv_d k_Ac_lowerBody 13 rfl) (by decide) ?_
    refine sv_iconst (pc := 62) (v := (1 : Int32)) (sv_d k_Ac_lowerBody 14 rfl) (by decide) ?_
    refine sv_iload_n (pc := 63) 3 (sv_d k_Ac_lowerBody 15 rfl) rfl rfl ?_
    refine sv_callV (pc := 64) (ψ := ss_i) (As := [.int (r1.2.1 175 2), .int (1 : Int32), .int (1 : Int32), .int x3]) (rest := [.int r1.1]) (c := 175) (sv_d k_Ac_lowerBody 16 rfl) g_Ac_send w1227 in_Ac_send se_Ac_send cf0 kd175 (ss_lt (by decide)) rfl (Nat.le_of_ble_eq_true rfl) (Hfs (r1.2.1 175 2) (1 : Int32) (1 : Int32) x3 r1.2) (Nat.le_of_ble_eq_true rfl) rfl (fun r2 => ?_)
    show sv_V E _ _ _ 67 _ [.int r2.1, .int r1.1] (ss_e r2.2) _
    refine sv_iadd (pc := 67) (sv_d k_Ac_lowerBody 17 rfl) ?_
    exact sv_ret (pc := 68) (sv_d k_Ac_lowerBody 18 rfl) ⟨_, rfl, rfl⟩ rfl
  · refine ss_dec (fun hh5 => ?_) (fun hh5 => ?_)
    · refine sv_lk (pc := 1) (tgt := 69) (off := 68) (sv_d k_Ac_lowerBody 1 rfl) (by decide) (by subst hh5; rfl) (by decide) ?_
      refine sv_aload_n (pc := 69) 0 (sv_d k_Ac_lowerBody 19 rfl) rfl rfl ?_
      refine sv_gets (pc := 70) (ss_st1 E) (sv_d k_Ac_lowerBody 20 rfl) w1236 ?_
      refine sv_iconst (pc := 73) (v := (4 : Int32)) (sv_d k_Ac_lowerBody 21 rfl) (by decide) ?_
      refine ss_iald (pc := 74) (n := 7) (sv_d k_Ac_lowerBody 22 rfl) kd1 (ss_lt (by decide)) rfl ?_
      refine sv_iconst (pc := 75) (v := (1 : Int32)) (sv_d k_Ac_lowerBody 23 rfl) (by decide) ?_
      refine sv_iload_n (pc := 76) 2 (sv_d k_Ac_lowerBody 24 rfl) rfl rfl ?_
      refine sv_iload_n (pc := 77) 3 (sv_d k_Ac_lowerBody 25 rfl) rfl rfl ?_
      refine sv_callV (pc := 78) (ψ := ss_i) (As := [.int (s.1 1 (4 : Int32).toNatClampNeg), .int (1 : Int32), .int x2, .int x3]) (rest := []) (c := 175) (sv_d k_Ac_lowerBody 26 rfl) g_Ac_send w1227 in_Ac_send se_Ac_send cf0 kd175 (ss_lt (by decide)) rfl (Nat.le_of_ble_eq_true rfl) (Hfs (s.1 1 (4 : Int32).toNatClampNeg) (1 : Int32) x2 x3 s) (Nat.le_of_ble_eq_true rfl) rfl (fun r4 => ?_)
      show sv_V E _ _ _ 81 _ [.int r4.1] (ss_e r4.2) _
      refine sv_iconst (pc := 81) (v := (4 : Int32)) (sv_d k_Ac_lowerBody 27 rfl) (by decide) ?_
      refine sv_iadd (pc := 82) (sv_d k_Ac_lowerBody 28 rfl) ?_
      exact sv_ret (pc := 83) (sv_d k_Ac_lowerBody 29 rfl) ⟨_, rfl, rfl⟩ rfl
    · refine ss_dec (fun hh7 => ?_) (fun hh7 => ?_)
      · refine sv_lk (pc := 1) (tgt := 84) (off := 83) (sv_d k_Ac_lowerBody 1 rfl) (by decide) (by subst hh7; rfl) (by decide) ?_
        refine sv_aload_n (pc := 84) 0 (sv_d k_Ac_lowerBody 30 rfl) rfl rfl ?_
        refine sv_gets (pc := 85) (ss_st1 E) (sv_d k_Ac_lowerBody 31 rfl) w1236 ?_
        refine sv_iconst (pc := 88) (v := (5 : Int32)) (sv_d k_Ac_lowerBody 32 rfl) (by decide) ?_
        refine ss_iald (pc := 89) (n := 7) (sv_d k_Ac_lowerBody 33 rfl) kd1 (ss_lt (by decide)) rfl ?_
        refine sv_iconst (pc := 90) (v := (2 : Int32)) (sv_d k_Ac_lowerBody 34 rfl) (by decide) ?_
        refine sv_iload_n (pc := 91) 2 (sv_d k_Ac_lowerBody 35 rfl) rfl rfl ?_
        refine sv_iload_n (pc := 92) 3 (sv_d k_Ac_lowerBody 36 rfl) rfl rfl ?_
        refine sv_callV (pc := 93) (ψ := ss_i) (As := [.int (s.1 1 (5 : Int32).toNatClampNeg), .int (2 : Int32), .int x2, .int x3]) (rest := []) (c := 175) (sv_d k_Ac_lowerBody 37 rfl) g_Ac_send w1227 in_Ac_send se_Ac_send cf0 kd175 (ss_lt (by decide)) rfl (Nat.le_of_ble_eq_true rfl) (Hfs (s.1 1 (5 : Int32).toNatClampNeg) (2 : Int32) x2 x3 s) (Nat.le_of_ble_eq_true rfl) rfl (fun r6 => ?_)
        show sv_V E _ _ _ 96 _ [.int r6.1] (ss_e r6.2) _
        refine sv_ineg (pc := 96) (sv_d k_Ac_lowerBody 38 rfl) ?_
        exact sv_ret (pc := 97) (sv_d k_Ac_lowerBody 39 rfl) ⟨_, rfl, rfl⟩ rfl
      · refine ss_dec (fun hh8 => ?_) (fun hh8 => ?_)
        · refine sv_lk (pc := 1) (tgt := 98) (off := 97) (sv_d k_Ac_lowerBody 1 rfl) (by decide) (by subst hh8; rfl) (by decide) ?_
          refine sv_aload_n (pc := 98) 0 (sv_d k_Ac_lowerBody 40 rfl) rfl rfl ?_
          refine sv_getf (pc := 99) 3 (sv_d k_Ac_lowerBody 41 rfl) cf0 (by decide) w477 kd175 (ss_lt (by decide)) rfl ?_
          exact sv_ret (pc := 102) (sv_d k_Ac_lowerBody 42 rfl) ⟨_, rfl, rfl⟩ rfl
        · refine sv_lk (pc := 1) (tgt := 103) (off := 102) (sv_d k_Ac_lowerBody 1 rfl) (by decide) (by rw [show (#[(50, 43), (51, 68), (60, 83), (70, 97)] : Array (Int × Int)).toList = [(50, 43), (51, 68), (60, 83), (70, 97)] from rfl]; rw [lv_osw (a := 50) hh3 (by decide), lv_osw (a := 51) hh5 (by decide), lv_osw (a := 60) hh7 (by decide), lv_osw (a := 70) hh8 (by decide)]; rfl) (by decide) ?_
          refine sv_aload_n (pc := 103) 0 (sv_d k_Ac_lowerBody 43 rfl) rfl rfl ?_
          refine sv_aload_n (pc := 104) 0 (sv_d k_Ac_lowerBody 44 rfl) rfl rfl ?_
          refine sv_getf (pc := 105) 2 (sv_d k_Ac_lowerBody 45 rfl) cf0 (by decide) w476 kd175 (ss_lt (by decide)) rfl ?_
          refine sv_iconst (pc := 108) (v := (0 : Int32)) (sv_d k_Ac_lowerBody 46 rfl) (by decide) ?_
          refine sv_iload_n (pc := 109) 2 (sv_d k_Ac_lowerBody 47 rfl) rfl rfl ?_
          refine sv_iload_n (pc := 110) 3 (sv_d k_Ac_lowerBody 48 rfl) rfl rfl ?_
          refine sv_callV (pc := 111) (ψ := ss_i) (As := [.int (s.1 175 2), .int (0 : Int32), .int x2, .int x3]) (rest := []) (c := 175) (sv_d k_Ac_lowerBody 49 rfl) g_Ac_send w1227 in_Ac_send se_Ac_send cf0 kd175 (ss_lt (by decide)) rfl (Nat.le_of_ble_eq_true rfl) (Hfs (s.1 175 2) (0 : Int32) x2 x3 s) (Nat.le_of_ble_eq_true rfl) rfl (fun r9 => ?_)
          show sv_V E _ _ _ 114 _ [.int r9.1] (ss_e r9.2) _
          refine sv_aload_n (pc := 114) 0 (sv_d k_Ac_lowerBody 50 rfl) rfl rfl ?_
          refine sv_gets (pc := 115) (ss_st1 E) (sv_d k_Ac_lowerBody 51 rfl) w1236 ?_
          refine sv_bipush (pc := 118) (v := (6 : Int32)) (sv_d k_Ac_lowerBody 52 rfl) (by decide) ?_
          refine ss_iald (pc := 120) (n := 7) (sv_d k_Ac_lowerBody 53 rfl) kd1 (ss_lt (by decide)) rfl ?_
          refine sv_iconst (pc := 121) (v := (2 : Int32)) (sv_d k_Ac_lowerBody 54 rfl) (by decide) ?_
          refine sv_iload_n (pc := 122) 2 (sv_d k_Ac_lowerBody 55 rfl) rfl rfl ?_
          refine sv_iload_n (pc := 123) 3 (sv_d k_Ac_lowerBody 56 rfl) rfl rfl ?_
          refine sv_callV (pc := 124) (ψ := ss_i) (As := [.int (r9.2.1 1 (6 : Int32).toNatClampNeg), .int (2 : Int32), .int x2, .int x3]) (rest := [.int r9.1]) (c := 175) (sv_d k_Ac_lowerBody 57 rfl) g_Ac_send w1227 in_Ac_send se_Ac_send cf0 kd175 (ss_lt (by decide)) rfl (Nat.le_of_ble_eq_true rfl) (Hfs (r9.2.1 1 (6 : Int32).toNatClampNeg) (2 : Int32) x2 x3 r9.2) (Nat.le_of_ble_eq_true rfl) rfl (fun r10 => ?_)
          show sv_V E _ _ _ 127 _ [.int r10.1, .int r9.1] (ss_e r10.2) _
          refine sv_iadd (pc := 127) (sv_d k_Ac_lowerBody 58 rfl) ?_
          exact sv_ret (pc := 128) (sv_d k_Ac_lowerBody 59 rfl) ⟨_, rfl, rfl⟩ rfl
def F_Ac_sendN : Nat → Int32 → Int32 → Int32 → Int32 → sv_S → Option (Int32 × sv_S)
  | 0 => fun _ _ _ _ _ => none
  | n + 1 => fun a b c e s => F_Ac_send_o (F_Ac_upperBody_o (F_Ac_sendN n)) (F_Ac_lowerBody_o (F_Ac_sendN n)) a b c e s
theorem V_Ac_sendN (E : sv_E) : ∀ (n d : Nat) (x1 x2 x3 x4 : Int32) (s : sv_S), sv_V E m_Ac_send (d + 2 * n) ss_i 0 (lv_args 0 [sv_r E 175, .int x1, .int x2, .int x3, .int x4]) [] (ss_e s) (F_Ac_sendN n x1 x2 x3 x4 s) := by
  intro n
  induction n with
  | zero => intro d x1 x2 x3 x4 s; exact sv_none
  | succ n ih =>
    intro d x1 x2 x3 x4 s
    have e1 : d + 2 * (n + 1) = (d + 2 * n + 1) + 1 := by omega
    rw [e1]
    unfold F_Ac_sendN
    exact V_Ac_send_o E (d + 2 * n + 1) _ (fun x y z s => V_Ac_upperBody_o E (d + 2 * n) _ (fun a b c e s => ih d a b c e s) x y z s) _ (fun x y z s => V_Ac_lowerBody_o E (d + 2 * n) _ (fun a b c e s => ih d a b c e s) x y z s) x1 x2 x3 x4 s
def F_Ac_send (x1 x2 x3 x4 : Int32) (s : sv_S) : Option (Int32 × sv_S) := F_Ac_sendN 40 x1 x2 x3 x4 s
theorem V_Ac_send (E : sv_E) (d : Nat) (x1 x2 x3 x4 : Int32) (s : sv_S) : sv_V E m_Ac_send (d + 80) ss_i 0 (lv_args 0 [sv_r E 175, .int x1, .int x2, .int x3, .int x4]) [] (ss_e s) (F_Ac_send x1 x2 x3 x4 s) := V_Ac_sendN E 40 d x1 x2 x3 x4 s
/-! Ac_run -/
abbrev m_Ac_run : sv_M := (yX0_run, cX0_run, 4, (some .int))
def t_Ac_run : List (Nat × Instr × Nat) := [(0, .aload_n 0, 1), (1, .aload_n 1, 1), (2, .invokevirtual 22, 3), (5, .putfield 28, 3), (8, .aload_n 0, 1), (9, .aload_n 1, 1), (10, .getfield 30, 3), (13, .putfield 33, 3), (16, .aload_n 0, 1), (17, .aload_n 1, 1), (18, .getfield 34, 3), (21, .putfield 37, 3), (24, .aload_n 0, 1), (25, .aload_n 1, 1), (26, .getfield 38, 3), (29, .putfield 41, 3), (32, .aload_n 0, 1), (33, .aload_n 0, 1), (34, .getfield 28, 3), (37, .iload_n 2, 1), (38, .iload_n 3, 1), (39, .iconst 0, 1), (40, .invokevirtual 42, 3), (43, .ireturn, 1)]
theorem k_Ac_run : sv_tk m_Ac_run.2.1 t_Ac_run := by decide +kernel
theorem g_Ac_run : sv_G m_Ac_run 3 := ⟨by decide +kernel, sv_in 1225 (by decide +kernel) rfl, sv_in 101 (by decide +kernel) rfl, ⟨by decide, by decide⟩, by decide +kernel, by decide⟩
theorem in_Ac_run : Cond.instanceMethod m_Ac_run.1 ∈ sv_T := sv_in 1223 (by decide +kernel) rfl
theorem se_Ac_run : Cond.selects m_Ac_run.1.cls m_Ac_run.1 m_Ac_run.1 ∈ sv_T := sv_in 1224 (by decide +kernel) rfl
def F_Ac_run (a1 : Nat) (x2 : Int32) (x3 : Int32) (s : sv_S) : Option (Int32 × sv_S) :=
  (F_Ra_kind a1 s).bind fun r1 =>
  ss_let (ss_setI s 175 2 r1) fun s2 =>
  ss_let (ss_setI s2 175 3 (s2.1 a1 0)) fun s3 =>
  ss_let (ss_setI s3 175 4 (s3.1 a1 2)) fun s4 =>
  ss_let (ss_setI s4 175 5 (s4.1 a1 5)) fun s5 =>
  (F_Ac_send (s5.1 175 2) x2 x3 (0 : Int32) s5).bind fun r6 =>
  some (r6.1, r6.2)
theorem V_Ac_run (E : sv_E) (d : Nat) (a1 : Nat) (x2 : Int32) (x3 : Int32) (s : sv_S) (h_a1 : ss_K a1 = 5) (o_a1 : 64 ≤ a1) (l_a1 : a1 < 243 + s.2.2.2.2.1) : sv_V E m_Ac_run (d + 81) ss_i 0 (lv_args 0 [sv_r E 175, sv_r E a1, .int x2, .int x3]) [] (ss_e s) (F_Ac_run a1 x2 x3 s) := by
  show sv_V E m_Ac_run (d + 81) ss_i 0 [(0, sv_r E 175), (1, sv_r E a1), (2, .int x2), (3, .int x3)] [] (ss_e s) _
  unfold F_Ac_run
  refine sv_aload_n (pc := 0) 0 (sv_d k_Ac_run 0 rfl) rfl rfl ?_
  refine sv_aload_n (pc := 1) 1 (sv_d k_Ac_run 1 rfl) rfl rfl ?_
  refine sv_callV (pc := 2) (ψ := (ss_pi s)) (As := []) (rest := [sv_r E 175]) (c := a1) (sv_d k_Ac_run 2 rfl) g_Ra_kind w1226 in_Ra_kind se_Ra_kind cf5 h_a1 l_a1 rfl (Nat.le_of_ble_eq_true rfl) (V_Ra_kind E (d + 80) a1 s h_a1 o_a1 l_a1) (Nat.le_of_ble_eq_true rfl) rfl (fun r1 => ?_)
  show sv_V E _ _ _ 5 _ [.int r1, sv_r E 175] (ss_e s) _
  refine ss_putI (pc := 5) 2 (sv_d k_Ac_run 3 rfl) cf0 (by decide) rfl w476 kd175 (ss_lt (by decide)) rfl rfl (fun _ => rfl) (ss_lets (fun s2 e_s2 => ?_))
  have l_a1 : a1 < 243 + s2.2.2.2.2.1 := by rw [e_s2]; exact l_a1
  refine sv_aload_n (pc := 8) 0 (sv_d k_Ac_run 4 rfl) rfl rfl ?_
  refine sv_aload_n (pc := 9) 1 (sv_d k_Ac_run 5 rfl) rfl rfl ?_
  refine sv_getN (pc := 10) 0 (sv_d k_Ac_run 6 rfl) cf5 (by decide) w259 h_a1 l_a1 rfl ?_
  refine ss_putI (pc := 13) 3 (sv_d k_Ac_run 7 rfl) cf0 (by decide) rfl w477 kd175 (ss_lt (by decide)) rfl rfl (fun _ => rfl) (ss_lets (fun s3 e_s3 => ?_))
  have l_a1 : a1 < 243 + s3.2.2.2.2.1 := by rw [e_s3]; exact l_a1
  refine sv_aload_n (pc := 16) 0 (sv_d k_Ac_run 8 rfl) rfl rfl ?_
  refine sv_aload_n (pc := 17) 1 (sv_d k_Ac_run 9 rfl) rfl rfl ?_
  refine sv_getN (pc := 18) 2 (sv_d k_Ac_run 10 rfl) cf5 (by decide) w265 h_a1 l_a1 rfl ?_
  refine ss_putI (pc := 21) 4 (sv_d k_Ac_run 11 rfl) cf0 (by decide) rfl w478 kd175 (ss_lt (by decide)) rfl rfl (fun _ => rfl) (ss_lets (fun s4 e_s4 => ?_))
  have l_a1 : a1 < 243 + s4.2.2.2.2.1 := by rw [e_s4]; exact l_a1
  refine sv_aload_n (pc := 24) 0 (sv_d k_Ac_run 12 rfl) rfl rfl ?_
  refine sv_aload_n (pc := 25) 1 (sv_d k_Ac_run 13 rfl) rfl rfl ?_
  refine sv_getN (pc := 26) 5 (sv_d k_Ac_run 14 rfl) cf5 (by decide) w282 h_a1 l_a1 rfl ?_
  refine ss_putI (pc := 29) 5 (sv_d k_Ac_run 15 rfl) cf0 (by decide) rfl w479 kd175 (ss_lt (by decide)) rfl rfl (fun _ => rfl) (ss_lets (fun s5 e_s5 => ?_))
  have l_a1 : a1 < 243 + s5.2.2.2.2.1 := by rw [e_s5]; exact l_a1
  refine sv_aload_n (pc := 32) 0 (sv_d k_Ac_run 16 rfl) rfl rfl ?_
  refine sv_aload_n (pc := 33) 0 (sv_d k_Ac_run 17 rfl) rfl rfl ?_
  refine sv_getf (pc := 34) 2 (sv_d k_Ac_run 18 rfl) cf0 (by decide) w476 kd175 (ss_lt (by decide)) rfl ?_
  refine sv_iload_n (pc := 37) 2 (sv_d k_Ac_run 19 rfl) rfl rfl ?_
  refine sv_iload_n (pc := 38) 3 (sv_d k_Ac_run 20 rfl) rfl rfl ?_
  refine sv_iconst (pc := 39) (v := (0 : Int32)) (sv_d k_Ac_run 21 rfl) (by decide) ?_
  refine sv_callV (pc := 40) (ψ := ss_i) (As := [.int (s5.1 175 2), .int x2, .int x3, .int (0 : Int32)]) (rest := []) (c := 175) (sv_d k_Ac_run 22 rfl) g_Ac_send w1227 in_Ac_send se_Ac_send cf0 kd175 (ss_lt (by decide)) rfl (Nat.le_of_ble_eq_true rfl) (V_Ac_send E (d + 0) (s5.1 175 2) x2 x3 (0 : Int32) s5) (Nat.le_of_ble_eq_true rfl) rfl (fun r6 => ?_)
  show sv_V E _ _ _ 43 _ [.int r6.1] (ss_e r6.2) _
  exact sv_ret (pc := 43) (sv_d k_Ac_run 23 rfl) ⟨_, rfl, rfl⟩ rfl
/-! X_act -/
abbrev m_X_act : sv_M := (yX11_act, cX11_act, 4, (some .int))
def t_X_act : List (Nat × Instr × Nat) := [(0, .aload_n 0, 1), (1, .getfield 71, 3), (4, .invokevirtual 342, 3), (7, .aload_n 0, 1), (8, .getfield 37, 3), (11, .iload_n 1, 1), (12, .invokevirtual 183, 3), (15, .ifCond .eq 12, 3), (18, .iload_n 2, 1), (19, .ifCond .lt 8, 3), (22, .iload_n 2, 1), (23, .iconst 3, 1), (24, .if_icmp .lt 5, 3), (27, .iconst 0, 1), (28, .ireturn, 1), (29, .aload_n 0, 1), (30, .getfield 71, 3), (33, .aload_n 0, 1), (34, .getfield 37, 3), (37, .iload_n 1, 1), (38, .invokevirtual 174, 3), (41, .iload_n 2, 1), (42, .iload_n 3, 1), (43, .invokevirtual 345, 3), (46, .ireturn, 1)]
theorem k_X_act : sv_tk m_X_act.2.1 t_X_act := by decide +kernel
theorem g_X_act : sv_G m_X_act 3 := ⟨by decide +kernel, sv_in 1217 (by decide +kernel) rfl, sv_in 90 (by decide +kernel) rfl, ⟨by decide, by decide⟩, by decide +kernel, by decide⟩
theorem in_X_act : Cond.instanceMethod m_X_act.1 ∈ sv_T := sv_in 1215 (by decide +kernel) rfl
theorem se_X_act : Cond.selects m_X_act.1.cls m_X_act.1 m_X_act.1 ∈ sv_T := sv_in 1216 (by decide +kernel) rfl
def F_X_act (x1 : Int32) (x2 : Int32) (x3 : Int32) (s : sv_S) : Option (Int32 × sv_S) :=
  (F_Ac_forget s).bind fun r1 =>
  (F_Rs_has x1 r1).bind fun r2 =>
  if r2 = 0 then
    some ((0 : Int32), r1)
  else
  if x2 < 0 then
    some ((0 : Int32), r1)
  else
  if x2 < (3 : Int32) then
    (F_Rs_row x1 r1).bind fun r3 =>
    if ss_ok2 r1 r3 5 = true then
      (F_Ac_run r3 x2 x3 r1).bind fun r5 =>
      some (r5.1, r5.2)
    else none
  else
  some ((0 : Int32), r1)
theorem V_X_act (E : sv_E) (d : Nat) (x1 : Int32) (x2 : Int32) (x3 : Int32) (s : sv_S) : sv_V E m_X_act (d + 82) ss_i 0 (lv_args 0 [sv_r E 64, .int x1, .int x2, .int x3]) [] (ss_e s) (F_X_act x1 x2 x3 s) := by
  show sv_V E m_X_act (d + 82) ss_i 0 [(0, sv_r E 64), (1, .int x1), (2, .int x2), (3, .int x3)] [] (ss_e s) _
  unfold F_X_act
  refine sv_aload_n (pc := 0) 0 (sv_d k_X_act 0 rfl) rfl rfl ?_
  refine sv_getf (pc := 1) 7 (sv_d k_X_act 1 rfl) cf11 (by decide) w523 kd64 (ss_lt (by decide)) (lr_64_7 E _) ?_
  refine sv_callV (pc := 4) (ψ := ss_v) (As := []) (rest := []) (c := 175) (sv_d k_X_act 2 rfl) g_Ac_forget w1218 in_Ac_forget se_Ac_forget cf0 kd175 (ss_lt (by decide)) rfl (Nat.le_of_ble_eq_true rfl) (V_Ac_forget E (d + 81) s) (Nat.le_of_ble_eq_true rfl) rfl (fun r1 => ?_)
  show sv_V E _ _ _ 7 _ [] (ss_e r1) _
  refine sv_aload_n (pc := 7) 0 (sv_d k_X_act 3 rfl) rfl rfl ?_
  refine sv_getf (pc := 8) 3 (sv_d k_X_act 4 rfl) cf11 (by decide) w519 kd64 (ss_lt (by decide)) (lr_64_3 E _) ?_
  refine sv_iload_n (pc := 11) 1 (sv_d k_X_act 5 rfl) rfl rfl ?_
  refine sv_callV (pc := 12) (ψ := (ss_pi r1)) (As := [.int x1]) (rest := []) (c := 88) (sv_d k_X_act 6 rfl) g_Rs_has w842 in_Rs_has se_Rs_has cf6 kd88 (ss_lt (by decide)) rfl (Nat.le_of_ble_eq_true rfl) (V_Rs_has E (d + 81) x1 r1) (Nat.le_of_ble_eq_true rfl) rfl (fun r2 => ?_)
  show sv_V E _ _ _ 15 _ [.int r2] (ss_e r1) _
  refine sv_if_eq (pc := 15) (tgt := 27) (sv_d k_X_act 7 rfl) (by decide) ?_ ?_
  · refine sv_iconst (pc := 27) (v := (0 : Int32)) (sv_d k_X_act 13 rfl) (by decide) ?_
    exact sv_ret (pc := 28) (sv_d k_X_act 14 rfl) ⟨_, rfl, rfl⟩ rfl
  · refine sv_iload_n (pc := 18) 2 (sv_d k_X_act 8 rfl) rfl rfl ?_
    refine sv_if_lt (pc := 19) (tgt := 27) (sv_d k_X_act 9 rfl) (by decide) ?_ ?_
    · refine sv_iconst (pc := 27) (v := (0 : Int32)) (sv_d k_X_act 13 rfl) (by decide) ?_
      exact sv_ret (pc := 28) (sv_d k_X_act 14 rfl) ⟨_, rfl, rfl⟩ rfl
    · refine sv_iload_n (pc := 22) 2 (sv_d k_X_act 10 rfl) rfl rfl ?_
      refine sv_iconst (pc := 23) (v := (3 : Int32)) (sv_d k_X_act 11 rfl) (by decide) ?_
      refine sv_icmp_lt (pc := 24) (tgt := 29) (sv_d k_X_act 12 rfl) (by decide) ?_ ?_
      · refine sv_aload_n (pc := 29) 0 (sv_d k_X_act 15 rfl) rfl rfl ?_
        refine sv_getf (pc := 30) 7 (sv_d k_X_act 16 rfl) cf11 (by decide) w523 kd64 (ss_lt (by decide)) (lr_64_7 E _) ?_
        refine sv_aload_n (pc := 33) 0 (sv_d k_X_act 17 rfl) rfl rfl ?_
        refine sv_getf (pc := 34) 3 (sv_d k_X_act 18 rfl) cf11 (by decide) w519 kd64 (ss_lt (by decide)) (lr_64_3 E _) ?_
        refine sv_iload_n (pc := 37) 1 (sv_d k_X_act 19 rfl) rfl rfl ?_
        refine sv_callV (pc := 38) (ψ := (ss_pq E r1)) (As := [.int x1]) (rest := [sv_r E 175]) (c := 88) (sv_d k_X_act 20 rfl) g_Rs_row w834 in_Rs_row se_Rs_row cf6 kd88 (ss_lt (by decide)) rfl (Nat.le_of_ble_eq_true rfl) (V_Rs_row E (d + 81) x1 r1) (Nat.le_of_ble_eq_true rfl) rfl (fun r3 => ?_)
        show sv_V E _ _ _ 41 _ [sv_r E r3, sv_r E 175] (ss_e r1) _
        refine ss_gd2 (fun h_g4 o_g4 l_g4 => ?_)
        refine sv_iload_n (pc := 41) 2 (sv_d k_X_act 21 rfl) rfl rfl ?_
        refine sv_iload_n (pc := 42) 3 (sv_d k_X_act 22 rfl) rfl rfl ?_
        refine sv_callV (pc := 43) (ψ := ss_i) (As := [sv_r E r3, .int x2, .int x3]) (rest := []) (c := 175) (sv_d k_X_act 23 rfl) g_Ac_run w1222 in_Ac_run se_Ac_run cf0 kd175 (ss_lt (by decide)) rfl (Nat.le_of_ble_eq_true rfl) (V_Ac_run E (d + 0) r3 x2 x3 r1 h_g4 o_g4 l_g4) (Nat.le_of_ble_eq_true rfl) rfl (fun r5 => ?_)
        show sv_V E _ _ _ 46 _ [.int r5.1] (ss_e r5.2) _
        exact sv_ret (pc := 46) (sv_d k_X_act 24 rfl) ⟨_, rfl, rfl⟩ rfl
      · refine sv_iconst (pc := 27) (v := (0 : Int32)) (sv_d k_X_act 13 rfl) (by decide) ?_
        exact sv_ret (pc := 28) (sv_d k_X_act 14 rfl) ⟨_, rfl, rfl⟩ rfl
