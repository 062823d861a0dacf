/-! clone of an int array; calls over a deep stack; Laws.add -/
def sv_zc {α : Type} (f : Nat → Nat → α) (n c : Nat) : Nat → Nat → α := fun a j => if a = n then f c j else f a j
def sv_mkc (h : sv_H) (c : Nat) : sv_H := (sv_zc h.1 (sv_nx h) c, (sv_mk h 20 (sv_ln h c) (sv_ln h c)).2)
theorem w_csame : Cond.sameMethod "[I" "java/lang/Object" "clone" "()Ljava/lang/Object;" ∈ sv_T := sv_in 759 (by decide +kernel) rfl
theorem w_cnat : Cond.native ⟨"java/lang/Object", "clone", "()Ljava/lang/Object;"⟩ ∈ sv_T := sv_in 760 (by decide +kernel) rfl
theorem w_cins : Cond.instanceMethod ⟨"java/lang/Object", "clone", "()Ljava/lang/Object;"⟩ ∈ sv_T := sv_in 761 (by decide +kernel) rfl
theorem w_csel : Cond.selects "[I" ⟨"[I", "clone", "()Ljava/lang/Object;"⟩ ⟨"java/lang/Object", "clone", "()Ljava/lang/Object;"⟩ ∈ sv_T := sv_in 762 (by decide +kernel) rfl
theorem sv_P.growc {E : sv_E} {s : State} {h : sv_H} {H H1 : Heap} {c0 : Nat} (hP : sv_P E s h H) (hok : ∀ c, c < 64 → E.2.2 c < E.1) (hz : H1.size = H.size + 1) (ho : ∀ q : Nat, q < H.size → H1[q]? = H[q]?) (hcell : sv_cell E s (sv_mkc h c0) H1 (sv_nx h)) : sv_P E s (sv_mkc h c0) H1 := by
  refine ⟨?_, ?_, fun c hc => ?_, fun q hq => (hP.2.2.2 q hq).kept (fun a ha _ => ho a ha)⟩
  · show H1.size + 64 = E.1 + (sv_nx h + 1)
    have := hP.1
    omega
  · show 64 ≤ sv_nx h + 1
    have := hP.2.1
    omega
  · have hc : c < sv_nx h + 1 := hc
    by_cases e : c = sv_nx h
    · rw [e]; exact hcell
    · have hc2 : c < sv_nx h := by omega
      exact (hP.2.2.1 c hc2).kept (ho _ (sv_ad_old hok hP hc2)) (by show sv_u1 (sv_ln h) (sv_nx h) _ c = _; simp [sv_u1, e]) (by show sv_u1 (sv_kd h) (sv_nx h) _ c = _; simp [sv_u1, e]) (fun j => ⟨by simp [sv_mkc, sv_zc, e], by simp [sv_mkc, sv_mk, sv_z, e], by simp [sv_mkc, sv_mk, sv_z, e]⟩)
section SVB
variable {α β : Type} {E : sv_E} {M Mc : sv_M} {d pc n index : Nat} {φ : α → Option Value × sv_H} {ψ : β → Option Value × sv_H} {lv : List (Nat × Value)} {st rest As : List Value} {h : sv_H} {o : Option α} {oc : Option β} {kf : β → Option α}
theorem sv_clone {c : Nat} (hd : decode M.2.1 pc = .ok (.invokevirtual index, 3)) (hln : Cond.methodLink M.1.cls index ⟨"[I", "clone", "()Ljava/lang/Object;"⟩ ∈ sv_T) (hkd : sv_kd h c = 20) (hc64 : 64 ≤ c) (hlt : c < sv_nx h) (hrest : (st.map fun v => v.category).sum ≤ 16) (k : sv_V E M (d + 1) φ (pc + 3) lv (sv_r E (sv_nx h) :: st) (sv_mkc h c) o) : sv_V E M (d + 1) φ pc lv (sv_r E c :: st) h o := by
  intro a ho
  obtain ⟨⟨hm1, hm2, hm3⟩, k⟩ := k a ho
  have hm1 : sv_nx h + 1 ≤ sv_nx (φ a).2 := hm1
  have hm2 : sv_sl h + sv_ln h c ≤ sv_sl (φ a).2 := hm2
  refine ⟨⟨by omega, by omega, hm3⟩, ?_⟩
  intro p l e R s m args below meth cd H locs cells slots Z ls c0 s0 Fx hK hP hS hB hR hc hs0 hl hE
  obtain ⟨r1, r2, r3, r4⟩ := hR
  obtain ⟨cell, a1, a2, a3, a4, a5, a6, a7⟩ := hP.arr hkd (by decide) (by decide) hlt
  obtain ⟨cA, g1, g2⟩ := a6 hc64
  obtain ⟨cI, cC, q1, q2, q3⟩ := hK.2.2.2.2.2.2.2.2
  have hcI : cell.cls = cI := by rw [g1]; exact Option.some.inj (g2.symm.trans q1)
  obtain ⟨-, kS, hkS, compS, hkindS⟩ := id a2
  have hz : cell.slots.size = sv_ln h c := by rw [g1, arrV_size]
  intro T hT X
  obtain ⟨-, kA, hkA, comp, hkind⟩ := State.isArrayOf_alike X.warmed.alike a2
  obtain ⟨vm', X', step⟩ := X.cloneArray Fx.1 Fx.2.2.2.1 (ad := "[I") (Fx.2.2.2.2.1 _ hln) (Fx.2.2.2.2.1 _ w_csame) (Fx.2.2.2.2.1 _ w_cnat) (Fx.2.2.2.2.1 _ w_cins) (Fx.2.2.2.2.1 _ w_csel) (a := sv_ad E c) (cell := cell) (by rw [hT]; exact a1) (fun z q => by rw [g1] at q; cases q) a3 (by rw [hcI]; exact q1) q2 (by rw [hcI]; exact q3)
    (fun i v hv => by
      have hi : i < sv_ln h c := by rw [← hz]; exact (Array.getElem?_eq_some_iff.mp hv).1
      have hv2 := a5 i hi
      rw [hv] at hv2
      have e2 : v = .int (h.1 c i) := Option.some.inj hv2
      subst e2
      have hkind : kA.kind = .array comp .int := hkind
      simp [State.fitsSlot, State.slotType?, hkA, hkind, fits])
    (g := F0 m pc ls (sv_r E c :: st)) rfl (by rw [Fx.2.2.1]; exact hl.1) rfl (by rw [Fx.2.1]; exact hd) (by omega) (by show 2 * 0 + _ + 14 ≤ _; omega) (by omega) (by rw [hz]; omega) (hloader := Vm.clonesLoader_of_array hkS hkindS)
  rw [hz] at X'
  have ecell : ({ cls := cell.cls, slots := cell.slots } : Cell) = arrV cA (sv_ln h c) (fun j => sv_fv E h c (sv_aty 20) j) := by rw [g1]; rfl
  rw [ecell] at X' step
  have hheap : ((T.setVm vm').pushCell (arrV cA (sv_ln h c) (fun j => sv_fv E h c (sv_aty 20) j))).heap = H.push (arrV cA (sv_ln h c) (fun j => sv_fv E h c (sv_aty 20) j)) := by rw [← hT]; rfl
  have e1 : Value.ref H.size = sv_r E (sv_nx h) := by unfold sv_r; rw [sv_ad_nx hP]
  have hoo : ∀ q : Nat, q < H.size → (H.push (arrV cA (sv_ln h c) (fun j => sv_fv E h c (sv_aty 20) j)))[q]? = H[q]? := fun q hq => by rw [Array.getElem?_push, if_neg (Nat.ne_of_lt hq)]
  have hfv : ∀ j, sv_fv E (sv_mkc h c) (sv_nx h) (sv_aty 20) j = sv_fv E h c (sv_aty 20) j := fun j => by simp [sv_fv, sv_aty, sv_mkc, sv_zc]
  have hlnn : sv_ln (sv_mkc h c) (sv_nx h) = sv_ln h c := by show sv_u1 (sv_ln h) (sv_nx h) _ (sv_nx h) = _; simp [sv_u1]
  have hcell : sv_cell E s (sv_mkc h c) (H.push (arrV cA (sv_ln h c) (fun j => sv_fv E h c (sv_aty 20) j))) (sv_nx h) := by
    unfold sv_cell
    rw [show sv_kd (sv_mkc h c) (sv_nx h) = 20 by show sv_u1 (sv_kd h) (sv_nx h) _ (sv_nx h) = _; simp [sv_u1], if_neg (by decide), if_pos (by decide)]
    refine ⟨arrV cA (sv_ln h c) (fun j => sv_fv E h c (sv_aty 20) j), by rw [sv_ad_nx hP]; simp, ⟨fun z q => (by cases q), kS, (by rw [g1] at hkS; exact hkS), compS, hkindS⟩, fun z => (by cases z), by rw [hlnn, arrV_size]; exact ⟨Nat.le_refl _, rfl⟩, fun j hj => by rw [hlnn] at hj; rw [arrV_read _ _ hj, hfv], fun _ => ⟨cA, ?_, g2⟩, trivial⟩
    rw [hlnn]
    congr 1
    funext j
    exact (hfv j).symm
  obtain ⟨t, t1, t2⟩ := k p l e R s m args below meth cd _ locs (cells + 1) (slots + sv_ln h c) Z ls c0 s0 Fx hK (hP.growc hK.1 (by simp) hoo hcell) ⟨by have := hS.1; simp; omega, fun q h1 h2 => (hoo q (Nat.lt_of_lt_of_le h1 hS.1)).trans (hS.2.1 q h1 h2), hS.2.2⟩ hB ⟨r1, r2, r3, r4⟩ (by show cells + 1 + c0 = sv_nx h + 1; omega) (by show slots + sv_ln h c + s0 = sv_sl h + sv_ln h c; omega) hl hE _ hheap X'
  refine ⟨t, step t ?_, t2⟩
  have e2 : T.heap.size = H.size := by rw [hT]
  rw [e2, e1]
  exact t1
theorem sv_callV16 {c kk : Nat} {T : u_T} {N : Nat} {ty : Nat → FieldType} (hd : decode M.2.1 pc = .ok (.invokevirtual index, 3)) (hG : sv_G Mc n) (hmL : Mc.2.2.1 ≤ 30) (hln : Cond.methodLink M.1.cls index Mc.1 ∈ sv_T) (hin : Cond.instanceMethod Mc.1 ∈ sv_T) (hse : Cond.selects Mc.1.cls Mc.1 Mc.1 ∈ sv_T) (hcf : sv_CF kk Mc.1.cls T N ty) (hkd : sv_kd h c = kk) (hlt : c < sv_nx h) (hn : As.length = n) (hrest : (rest.map fun v => v.category).sum ≤ 16) (hc : sv_V E Mc d ψ 0 (lv_args 0 (sv_r E c :: As)) [] h oc) (hAs : (lg_sl (sv_r E c :: As)).length ≤ Mc.2.2.1) {st0 : List Value} (hst0 : As.reverse ++ sv_r E c :: rest = st0)
    (k : ∀ b, sv_V E M (d + 1) φ (pc + 3) lv ((ψ b).1.toList ++ rest) (ψ b).2 (kf b)) : sv_V E M (d + 1) φ pc lv st0 h (oc.bind kf) := by
  refine sv_call hG hc hAs (fun {p l e R s m args below meth cd H locs cells slots ls r h' mc ms} Fx hK hP hsz hPc r1 r2 hfit hM => ⟨(sv_r E c :: As).toArray, ?_⟩) k
  have hws : ∀ w ∈ (Cond.code Mc.1 Mc.2.1 Mc.2.2.1 Mc.2.2.2 :: sv_T), w ∈ sv_T ∧ ((w.onTables && w.keeps) = true ∨ ∃ ty, w = .arrayClass ty) := fun w hw => by
    rcases List.mem_cons.mp hw with rfl | hw
    · exact sv_T_good _ hG.2.1
    · exact sv_T_good _ hw
  have hB : Back l R p e below s args Mc.1 3 16 (PreOf R mc ms (sv_Pc E (sv_r E c :: As) h)) (PostOf (sv_Q E r h') mc ms (fun q => E.1 ≤ q)) := back_of (bytes := Mc.2.1) (maxL := Mc.2.2.1) (ret := Mc.2.2.2) hM sv_Pc.blind rfl rfl r1 (by show 16 + (Mc.2.2.1 + 11) + 64 * d ≤ R.locals; omega) (pay_in Fx.2.2.2.2.1 hws) List.mem_cons_self (fun a' U hW => word_at hW (Or.inl (by first | rfl | simp [Cond.onTables, Cond.keeps, Cond.steady])) (Fx.2.2.2.2.1 _ hG.2.2.1))
  obtain ⟨cellB, hcB, hoB, hclB⟩ := sv_recv hK hP hcf hkd hlt
  intro T hT X
  obtain ⟨v, vm₁, ⟨U', l2, c2, s2⟩, hW₁, X', ⟨g', mk, t, L, e1, e2, hq, h1, hL, h2, h3⟩, sst⟩ := callV X Fx.1 (C := Mc.1.cls) (bytes := Mc.2.1) (maxL := Mc.2.2.1) (ret := Mc.2.2.2) Fx.2.2.2.1 (Fx.2.2.2.2.1 _ hln) (Fx.2.2.2.2.1 _ hin) (Fx.2.2.2.2.1 _ hse) (Fx.2.2.2.2.1 _ hG.2.1) hG.2.2.2.1 hB (by rw [hT]; exact hcB) hoB hclB (g := F0 m pc ls st0) rfl (hsz.trans Fx.2.2.1.symm) (argsL := As) (rest := rest) (fun sig hs => by
      have h9 := hG.2.2.2.2.1
      rw [hs] at h9
      exact hn.trans (Option.some.inj h9).symm) hst0.symm (by show 2 * 0 + _ ≤ 16; omega) (by rw [Fx.2.1]; exact hd)
    (fun vm₁ hW₁ => ⟨hfit.1, hfit.2, hPc (T.setVm vm₁) hT hW₁⟩)
  dsimp only [Pt.U, Pt.locs, Pt.cells, Pt.slots] at X' e1 e2 h1 h2 h3 sst
  subst h1; subst h2; subst h3
  exact ⟨v, (T.setVm vm₁).calling g' mk (sv_r E c :: As).toArray, t, U', L, hT, X', hL, e1, e2, hq, sst⟩
end SVB
/-! JA_checkLength -/
abbrev m_JA_checkLength : sv_M := (yJ7_checkLength_df160, cJ7_checkLength_df160, 2, none)
def t_JA_checkLength : List (Nat × Instr × Nat) := [(0, .iload_n 1, 1), (1, .iload_n 0, 1), (2, .if_icmp .ge 35, 3), (5, .new 43, 3), (8, .dup, 1), (9, .new 45, 3), (12, .dup, 1), (13, .invokespecial 47, 3), (16, .iload_n 0, 1), (17, .invokevirtual 54, 3), (20, .ldc_w 337, 3), (23, .invokevirtual 50, 3), (26, .iload_n 1, 1), (27, .invokevirtual 54, 3), (30, .invokevirtual 61, 3), (33, .invokespecial 65, 3), (36, .athrow, 1), (37, .return_, 1)]
theorem k_JA_checkLength : sv_tk m_JA_checkLength.2.1 t_JA_checkLength := by decide +kernel
theorem g_JA_checkLength : sv_G m_JA_checkLength 2 := ⟨by decide +kernel, sv_in 777 (by decide +kernel) rfl, sv_in 92 (by decide +kernel) rfl, ⟨by decide, by decide⟩, by decide +kernel, by decide⟩
theorem st_JA_checkLength : Cond.static m_JA_checkLength.1 ∈ sv_T := sv_in 776 (by decide +kernel) rfl
def FD_JA_checkLength (x0 : Int32) (x1 : Int32) (s : sv_H) : Option (sv_H) :=
  if x0 ≤ x1 then
    some s
  else
  none
theorem VD_JA_checkLength (E : sv_E) (d : Nat) (x0 : Int32) (x1 : Int32) (s : sv_H) : sv_V E m_JA_checkLength (d + 0) sd_v 0 (lv_args 0 [.int x0, .int x1]) [] s (FD_JA_checkLength x0 x1 s) := by
  show sv_V E m_JA_checkLength (d + 0) sd_v 0 [(0, .int x0), (1, .int x1)] [] s _
  unfold FD_JA_checkLength
  refine sv_iload_n (pc := 0) 1 (sv_d k_JA_checkLength 0 rfl) rfl rfl ?_
  refine sv_iload_n (pc := 1) 0 (sv_d k_JA_checkLength 1 rfl) rfl rfl ?_
  refine sv_icmp_ge (pc := 2) (tgt := 37) (sv_d k_JA_checkLength 2 rfl) (by decide) ?_ ?_
  · exact sv_retv (pc := 37) (sv_d k_JA_checkLength 17 rfl) rfl rfl
  · exact sv_none
/-! JA_copyOfRangeInt -/
abbrev m_JA_copyOfRangeInt : sv_M := (yJ7_copyOfRangeInt_feecc, cJ7_copyOfRangeInt_feecc, 5, (some (.array .int)))
def t_JA_copyOfRangeInt : List (Nat × Instr × Nat) := [(0, .iload_n 1, 1), (1, .iload_n 2, 1), (2, .invokestatic 343, 3), (5, .iload_n 2, 1), (6, .iload_n 1, 1), (7, .isub, 1), (8, .istore_n 3, 1), (9, .iload_n 3, 1), (10, .newarray .int, 2), (12, .astore 4, 2), (14, .aload_n 0, 1), (15, .iload_n 1, 1), (16, .aload 4, 2), (18, .iconst 0, 1), (19, .aload_n 0, 1), (20, .arraylength, 1), (21, .iload_n 1, 1), (22, .isub, 1), (23, .iload_n 3, 1), (24, .invokestatic 304, 3), (27, .invokestatic 150, 3), (30, .aload 4, 2), (32, .areturn, 1)]
theorem k_JA_copyOfRangeInt : sv_tk m_JA_copyOfRangeInt.2.1 t_JA_copyOfRangeInt := by decide +kernel
theorem g_JA_copyOfRangeInt : sv_G m_JA_copyOfRangeInt 3 := ⟨by decide +kernel, sv_in 774 (by decide +kernel) rfl, sv_in 92 (by decide +kernel) rfl, ⟨by decide, by decide⟩, by decide +kernel, by decide⟩
theorem st_JA_copyOfRangeInt : Cond.static m_JA_copyOfRangeInt.1 ∈ sv_T := sv_in 773 (by decide +kernel) rfl
def FD_JA_copyOfRangeInt (a0 : Nat) (x1 : Int32) (x2 : Int32) (s : sv_H) : Option (Nat × sv_H) :=
  (FD_JA_checkLength x1 x2 s).bind fun r2 =>
  ss_let (x2 - x1) fun v3 =>
  if sd_nb v3 = true then
    ss_let (sv_nx r2) fun w6 =>
    ss_let (sv_mk r2 20 v3.toNatClampNeg v3.toNatClampNeg) fun s5 =>
    if sd_ok s5 a0 20 = true then
      (FD_JM_min ((Int32.ofNat (sv_ln s5 a0)) - x1) v3 s5).bind fun r9 =>
      if sd_ok r9.2 a0 20 = true then
        if sd_ok r9.2 w6 20 = true then
          if sv_cpb x1 (0 : Int32) r9.1 (sv_ln r9.2 a0) (sv_ln r9.2 w6) = true then
            ss_let (sv_cpI r9.2.1 a0 w6 x1.toNatClampNeg (0 : Int32).toNatClampNeg r9.1.toNatClampNeg, r9.2.2) fun s11 =>
            some (w6, s11)
          else none
        else none
      else none
    else none
  else none
theorem VD_JA_copyOfRangeInt (E : sv_E) (d : Nat) (a0 : Nat) (x1 : Int32) (x2 : Int32) (s : sv_H) : sv_V E m_JA_copyOfRangeInt (d + 1) (sd_q E) 0 (lv_args 0 [sv_r E a0, .int x1, .int x2]) [] s (FD_JA_copyOfRangeInt a0 x1 x2 s) := by
  show sv_V E m_JA_copyOfRangeInt (d + 1) (sd_q E) 0 [(0, sv_r E a0), (1, .int x1), (2, .int x2)] [] s _
  unfold FD_JA_copyOfRangeInt
  refine sv_iload_n (pc := 0) 1 (sv_d k_JA_copyOfRangeInt 0 rfl) rfl rfl ?_
  refine sv_iload_n (pc := 1) 2 (sv_d k_JA_copyOfRangeInt 1 rfl) rfl rfl ?_
  refine sv_callS (pc := 2) (ψ := sd_v) (As := [.int x1, .int x2]) (rest := []) (sv_d k_JA_copyOfRangeInt 2 rfl) g_JA_checkLength w775 st_JA_checkLength rfl (Nat.le_of_ble_eq_true rfl) (VD_JA_checkLength E (d + 0) x1 x2 s) (Nat.le_of_ble_eq_true rfl) rfl (fun r2 => ?_)
  show sv_V E _ _ _ 5 _ [] r2 _
  refine sv_iload_n (pc := 5) 2 (sv_d k_JA_copyOfRangeInt 3 rfl) rfl rfl ?_
  refine sv_iload_n (pc := 6) 1 (sv_d k_JA_copyOfRangeInt 4 rfl) rfl rfl ?_
  refine sv_isub (pc := 7) (sv_d k_JA_copyOfRangeInt 5 rfl) ?_
  refine ss_top (fun v3 e_v3 => ?_)
  refine sv_istore_n (pc := 8) (lv' := [(3, .int v3), (0, sv_r E a0), (1, .int x1), (2, .int x2)]) (sv_d k_JA_copyOfRangeInt 6 rfl) rfl (by decide) rfl ?_
  refine sv_iload_n (pc := 9) 0 (sv_d k_JA_copyOfRangeInt 7 rfl) rfl rfl ?_
  refine ss_grd (fun hnb => ?_)
  refine ss_letr (fun w6 e_w6 => ?_)
  refine sv_newa (pc := 10) (kk := 20) (sv_d k_JA_copyOfRangeInt 8 rfl) rfl wa20 hnb (sd_lets (fun s5 e_s5 => ?_))
  rw [← e_w6]
  refine sv_astore (pc := 12) (lv' := [(4, sv_r E w6), (3, .int v3), (0, sv_r E a0), (1, .int x1), (2, .int x2)]) (sv_d k_JA_copyOfRangeInt 9 rfl) (by decide) rfl ?_
  refine sv_aload_n (pc := 14) 2 (sv_d k_JA_copyOfRangeInt 10 rfl) rfl rfl ?_
  refine sv_iload_n (pc := 15) 3 (sv_d k_JA_copyOfRangeInt 11 rfl) rfl rfl ?_
  refine sv_aload (pc := 16) 0 (sv_d k_JA_copyOfRangeInt 12 rfl) rfl ?_
  refine sv_iconst (pc := 18) (v := (0 : Int32)) (sv_d k_JA_copyOfRangeInt 13 rfl) (by decide) ?_
  refine sv_aload_n (pc := 19) 2 (sv_d k_JA_copyOfRangeInt 14 rfl) rfl rfl ?_
  refine sd_gd (fun k_k7 o_k7 l_k7 => ?_)
  refine sv_alen (pc := 20) (sv_d k_JA_copyOfRangeInt 15 rfl) k_k7 (by decide) (by decide) l_k7 rfl ?_
  refine sv_iload_n (pc := 21) 3 (sv_d k_JA_copyOfRangeInt 16 rfl) rfl rfl ?_
  refine sv_isub (pc := 22) (sv_d k_JA_copyOfRangeInt 17 rfl) ?_
  refine sv_iload_n (pc := 23) 1 (sv_d k_JA_copyOfRangeInt 18 rfl) rfl rfl ?_
  refine sv_callS (pc := 24) (ψ := sd_i) (As := [.int ((Int32.ofNat (sv_ln s5 a0)) - x1), .int v3]) (rest := [.int (0 : Int32), sv_r E w6, .int x1, sv_r E a0]) (sv_d k_JA_copyOfRangeInt 19 rfl) g_JM_min w778 st_JM_min rfl (Nat.le_of_ble_eq_true rfl) (VD_JM_min E (d + 0) ((Int32.ofNat (sv_ln s5 a0)) - x1) v3 s5) (Nat.le_of_ble_eq_true rfl) rfl (fun r9 => ?_)
  show sv_V E _ _ _ 27 _ [.int r9.1, .int (0 : Int32), sv_r E w6, .int x1, sv_r E a0] r9.2 _
  refine sd_gd (fun k_k12 o_k12 l_k12 => sd_gd (fun k_k13 o_k13 l_k13 => ?_))
  refine ss_grd (fun hok => sv_copyI (pc := 27) (sv_d k_JA_copyOfRangeInt 20 rfl) w779 w_nat w_sta w_ini k_k12 k_k13 o_k12 o_k13 l_k12 l_k13 hok (Nat.le_of_ble_eq_true rfl) (sd_lets (fun s11 e_s11 => ?_)))
  refine sv_aload (pc := 30) 0 (sv_d k_JA_copyOfRangeInt 21 rfl) rfl ?_
  exact sv_ret (pc := 32) (sv_d k_JA_copyOfRangeInt 22 rfl) ⟨_, rfl, Or.inr ⟨_, rfl⟩⟩ rfl
/-! JA_copyOfRange -/
abbrev m_JA_copyOfRange : sv_M := (yJ7_copyOfRange_feecc, cJ7_copyOfRange_feecc, 3, (some (.array .int)))
def t_JA_copyOfRange : List (Nat × Instr × Nat) := [(0, .iload_n 1, 1), (1, .ifCond .ne 9, 3), (4, .iload_n 2, 1), (5, .aload_n 0, 1), (6, .arraylength, 1), (7, .if_icmp .eq 10, 3), (10, .aload_n 0, 1), (11, .iload_n 1, 1), (12, .iload_n 2, 1), (13, .invokestatic 351, 3), (16, .areturn, 1), (17, .aload_n 0, 1), (18, .invokevirtual 316, 3), (21, .checkcast 317, 3), (24, .areturn, 1)]
theorem k_JA_copyOfRange : sv_tk m_JA_copyOfRange.2.1 t_JA_copyOfRange := by decide +kernel
theorem g_JA_copyOfRange : sv_G m_JA_copyOfRange 3 := ⟨by decide +kernel, sv_in 771 (by decide +kernel) rfl, sv_in 92 (by decide +kernel) rfl, ⟨by decide, by decide⟩, by decide +kernel, by decide⟩
theorem st_JA_copyOfRange : Cond.static m_JA_copyOfRange.1 ∈ sv_T := sv_in 770 (by decide +kernel) rfl
def FD_JA_copyOfRange (a0 : Nat) (x1 : Int32) (x2 : Int32) (s : sv_H) : Option (Nat × sv_H) :=
  if x1 = 0 then
    if sd_ok s a0 20 = true then
      if x2 = (Int32.ofNat (sv_ln s a0)) then
        if sd_ok s a0 20 = true then
          ss_let (sv_nx s) fun w6 =>
          ss_let (sv_mkc s a0) fun s5 =>
          if sd_ok s5 w6 20 = true then
            some (w6, s5)
          else none
        else none
      else
      (FD_JA_copyOfRangeInt a0 x1 x2 s).bind fun r10 =>
      some (r10.1, r10.2)
    else none
  else
  (FD_JA_copyOfRangeInt a0 x1 x2 s).bind fun r2 =>
  some (r2.1, r2.2)
theorem VD_JA_copyOfRange (E : sv_E) (d : Nat) (a0 : Nat) (x1 : Int32) (x2 : Int32) (s : sv_H) : sv_V E m_JA_copyOfRange (d + 2) (sd_q E) 0 (lv_args 0 [sv_r E a0, .int x1, .int x2]) [] s (FD_JA_copyOfRange a0 x1 x2 s) := by
  show sv_V E m_JA_copyOfRange (d + 2) (sd_q E) 0 [(0, sv_r E a0), (1, .int x1), (2, .int x2)] [] s _
  unfold FD_JA_copyOfRange
  refine sv_iload_n (pc := 0) 1 (sv_d k_JA_copyOfRange 0 rfl) rfl rfl ?_
  refine sv_if_ne (pc := 1) (tgt := 10) (sv_d k_JA_copyOfRange 1 rfl) (by decide) ?_ ?_
  · refine sv_aload_n (pc := 10) 0 (sv_d k_JA_copyOfRange 6 rfl) rfl rfl ?_
    refine sv_iload_n (pc := 11) 1 (sv_d k_JA_copyOfRange 7 rfl) rfl rfl ?_
    refine sv_iload_n (pc := 12) 2 (sv_d k_JA_copyOfRange 8 rfl) rfl rfl ?_
    refine sv_callS (pc := 13) (ψ := (sd_q E)) (As := [sv_r E a0, .int x1, .int x2]) (rest := []) (sv_d k_JA_copyOfRange 9 rfl) g_JA_copyOfRangeInt w772 st_JA_copyOfRangeInt rfl (Nat.le_of_ble_eq_true rfl) (VD_JA_copyOfRangeInt E (d + 0) a0 x1 x2 s) (Nat.le_of_ble_eq_true rfl) rfl (fun r2 => ?_)
    show sv_V E _ _ _ 16 _ [sv_r E r2.1] r2.2 _
    exact sv_ret (pc := 16) (sv_d k_JA_copyOfRange 10 rfl) ⟨_, rfl, Or.inr ⟨_, rfl⟩⟩ rfl
  · refine sv_iload_n (pc := 4) 2 (sv_d k_JA_copyOfRange 2 rfl) rfl rfl ?_
    refine sv_aload_n (pc := 5) 0 (sv_d k_JA_copyOfRange 3 rfl) rfl rfl ?_
    refine sd_gd (fun k_k3 o_k3 l_k3 => ?_)
    refine sv_alen (pc := 6) (sv_d k_JA_copyOfRange 4 rfl) k_k3 (by decide) (by decide) l_k3 rfl ?_
    refine sv_icmp_eq (pc := 7) (tgt := 17) (sv_d k_JA_copyOfRange 5 rfl) (by decide) ?_ ?_
    · refine sv_aload_n (pc := 17) 0 (sv_d k_JA_copyOfRange 11 rfl) rfl rfl ?_
      refine sd_gd (fun k_k8 o_k8 l_k8 => ?_)
      refine ss_letr (fun w6 e_w6 => ?_)
      refine sv_clone (pc := 18) (sv_d k_JA_copyOfRange 12 rfl) w782 k_k8 o_k8 l_k8 (Nat.le_of_ble_eq_true rfl) (sd_lets (fun s5 e_s5 => ?_))
      rw [← e_w6]
      refine sd_gd (fun k_k7 o_k7 l_k7 => ?_)
      refine sv_castI (pc := 21) (sv_d k_JA_copyOfRange 13 rfl) w783 k_k7 o_k7 l_k7 ?_
      exact sv_ret (pc := 24) (sv_d k_JA_copyOfRange 14 rfl) ⟨_, rfl, Or.inr ⟨_, rfl⟩⟩ rfl
    · refine sv_aload_n (pc := 10) 0 (sv_d k_JA_copyOfRange 6 rfl) rfl rfl ?_
      refine sv_iload_n (pc := 11) 1 (sv_d k_JA_copyOfRange 7 rfl) rfl rfl ?_
      refine sv_iload_n (pc := 12) 2 (sv_d k_JA_copyOfRange 8 rfl) rfl rfl ?_
      refine sv_callS (pc := 13) (ψ := (sd_q E)) (As := [sv_r E a0, .int x1, .int x2]) (rest := []) (sv_d k_JA_copyOfRange 9 rfl) g_JA_copyOfRangeInt w772 st_JA_copyOfRangeInt rfl (Nat.le_of_ble_eq_true rfl) (VD_JA_copyOfRangeInt E (d + 0) a0 x1 x2 s) (Nat.le_of_ble_eq_true rfl) rfl (fun r10 => ?_)
      show sv_V E _ _ _ 16 _ [sv_r E r10.1] r10.2 _
      exact sv_ret (pc := 16) (sv_d k_JA_copyOfRange 10 rfl) ⟨_, rfl, Or.inr ⟨_, rfl⟩⟩ rfl
/-! Lt_sameSteps -/
abbrev m_Lt_sameSteps : sv_M := (yX3_sameSteps, cX3_sameSteps, 1, (some (.array .int)))
def t_Lt_sameSteps : List (Nat × Instr × Nat) := [(0, .aload_n 0, 1), (1, .getfield 19, 3), (4, .aload_n 0, 1), (5, .getfield 26, 3), (8, .aload_n 0, 1), (9, .getfield 29, 3), (12, .invokestatic 32, 3), (15, .areturn, 1)]
theorem k_Lt_sameSteps : sv_tk m_Lt_sameSteps.2.1 t_Lt_sameSteps := by decide +kernel
theorem g_Lt_sameSteps : sv_G m_Lt_sameSteps 0 := ⟨by decide +kernel, sv_in 768 (by decide +kernel) rfl, sv_in 93 (by decide +kernel) rfl, ⟨by decide, by decide⟩, by decide +kernel, by decide⟩
theorem in_Lt_sameSteps : Cond.instanceMethod m_Lt_sameSteps.1 ∈ sv_T := sv_in 766 (by decide +kernel) rfl
theorem se_Lt_sameSteps : Cond.selects m_Lt_sameSteps.1.cls m_Lt_sameSteps.1 m_Lt_sameSteps.1 ∈ sv_T := sv_in 767 (by decide +kernel) rfl
def FD_Lt_sameSteps (a0 : Nat) (s : sv_H) : Option (Nat × sv_H) :=
  if sd_ok s a0 3 = true then
    (s.2.2.1 a0 2).bind fun w2 =>
    if sd_ok s a0 3 = true then
      if sd_ok s a0 3 = true then
        (FD_JA_copyOfRange w2 (s.1 a0 6) (s.1 a0 7) s).bind fun r6 =>
        some (r6.1, r6.2)
      else none
    else none
  else none
theorem VD_Lt_sameSteps (E : sv_E) (d : Nat) (a0 : Nat) (s : sv_H) : sv_V E m_Lt_sameSteps (d + 3) (sd_q E) 0 (lv_args 0 [sv_r E a0]) [] s (FD_Lt_sameSteps a0 s) := by
  show sv_V E m_Lt_sameSteps (d + 3) (sd_q E) 0 [(0, sv_r E a0)] [] s _
  unfold FD_Lt_sameSteps
  refine sv_aload_n (pc := 0) 0 (sv_d k_Lt_sameSteps 0 rfl) rfl rfl ?_
  refine sd_gd (fun k_k1 o_k1 l_k1 => ?_)
  refine sd_getR (pc := 1) 2 (sv_d k_Lt_sameSteps 1 rfl) cf3 (by decide) w158 k_k1 l_k1 (fun _ => rfl) (fun w2 => ?_)
  refine sv_aload_n (pc := 4) 0 (sv_d k_Lt_sameSteps 2 rfl) rfl rfl ?_
  refine sd_gd (fun k_k3 o_k3 l_k3 => ?_)
  refine sv_getf (pc := 5) 6 (sv_d k_Lt_sameSteps 3 rfl) cf3 (by decide) w164 k_k3 l_k3 rfl ?_
  refine sv_aload_n (pc := 8) 0 (sv_d k_Lt_sameSteps 4 rfl) rfl rfl ?_
  refine sd_gd (fun k_k4 o_k4 l_k4 => ?_)
  refine sv_getf (pc := 9) 7 (sv_d k_Lt_sameSteps 5 rfl) cf3 (by decide) w165 k_k4 l_k4 rfl ?_
  refine sv_callS (pc := 12) (ψ := (sd_q E)) (As := [sv_r E w2, .int (s.1 a0 6), .int (s.1 a0 7)]) (rest := []) (sv_d k_Lt_sameSteps 6 rfl) g_JA_copyOfRange w769 st_JA_copyOfRange rfl (Nat.le_of_ble_eq_true rfl) (VD_JA_copyOfRange E (d + 0) w2 (s.1 a0 6) (s.1 a0 7) s) (Nat.le_of_ble_eq_true rfl) rfl (fun r6 => ?_)
  show sv_V E _ _ _ 15 _ [sv_r E r6.1] r6.2 _
  exact sv_ret (pc := 15) (sv_d k_Lt_sameSteps 7 rfl) ⟨_, rfl, Or.inr ⟨_, rfl⟩⟩ rfl
/-! Lt_excuseSteps -/
abbrev m_Lt_excuseSteps : sv_M := (yX3_excuseSteps, cX3_excuseSteps, 1, (some (.array .int)))
def t_Lt_excuseSteps : List (Nat × Instr × Nat) := [(0, .aload_n 0, 1), (1, .getfield 19, 3), (4, .aload_n 0, 1), (5, .getfield 38, 3), (8, .aload_n 0, 1), (9, .getfield 41, 3), (12, .invokestatic 32, 3), (15, .areturn, 1)]
theorem k_Lt_excuseSteps : sv_tk m_Lt_excuseSteps.2.1 t_Lt_excuseSteps := by decide +kernel
theorem g_Lt_excuseSteps : sv_G m_Lt_excuseSteps 0 := ⟨by decide +kernel, sv_in 787 (by decide +kernel) rfl, sv_in 93 (by decide +kernel) rfl, ⟨by decide, by decide⟩, by decide +kernel, by decide⟩
theorem in_Lt_excuseSteps : Cond.instanceMethod m_Lt_excuseSteps.1 ∈ sv_T := sv_in 785 (by decide +kernel) rfl
theorem se_Lt_excuseSteps : Cond.selects m_Lt_excuseSteps.1.cls m_Lt_excuseSteps.1 m_Lt_excuseSteps.1 ∈ sv_T := sv_in 786 (by decide +kernel) rfl
def FD_Lt_excuseSteps (a0 : Nat) (s : sv_H) : Option (Nat × sv_H) :=
  if sd_ok s a0 3 = true then
    (s.2.2.1 a0 2).bind fun w2 =>
    if sd_ok s a0 3 = true then
      if sd_ok s a0 3 = true then
        (FD_JA_copyOfRange w2 (s.1 a0 8) (s.1 a0 9) s).bind fun r6 =>
        some (r6.1, r6.2)
      else none
    else none
  else none
theorem VD_Lt_excuseSteps (E : sv_E) (d : Nat) (a0 : Nat) (s : sv_H) : sv_V E m_Lt_excuseSteps (d + 3) (sd_q E) 0 (lv_args 0 [sv_r E a0]) [] s (FD_Lt_excuseSteps a0 s) := by
  show sv_V E m_Lt_excuseSteps (d + 3) (sd_q E) 0 [(0, sv_r E a0)] [] s _
  unfold FD_Lt_excuseSteps
  refine sv_aload_n (pc := 0) 0 (sv_d k_Lt_excuseSteps 0 rfl) rfl rfl ?_
  refine sd_gd (fun k_k1 o_k1 l_k1 => ?_)
  refine sd_getR (pc := 1) 2 (sv_d k_Lt_excuseSteps 1 rfl) cf3 (by decide) w158 k_k1 l_k1 (fun _ => rfl) (fun w2 => ?_)
  refine sv_aload_n (pc := 4) 0 (sv_d k_Lt_excuseSteps 2 rfl) rfl rfl ?_
  refine sd_gd (fun k_k3 o_k3 l_k3 => ?_)
  refine sv_getf (pc := 5) 8 (sv_d k_Lt_excuseSteps 3 rfl) cf3 (by decide) w166 k_k3 l_k3 rfl ?_
  refine sv_aload_n (pc := 8) 0 (sv_d k_Lt_excuseSteps 4 rfl) rfl rfl ?_
  refine sd_gd (fun k_k4 o_k4 l_k4 => ?_)
  refine sv_getf (pc := 9) 9 (sv_d k_Lt_excuseSteps 5 rfl) cf3 (by decide) w167 k_k4 l_k4 rfl ?_
  refine sv_callS (pc := 12) (ψ := (sd_q E)) (As := [sv_r E w2, .int (s.1 a0 8), .int (s.1 a0 9)]) (rest := []) (sv_d k_Lt_excuseSteps 6 rfl) g_JA_copyOfRange w769 st_JA_copyOfRange rfl (Nat.le_of_ble_eq_true rfl) (VD_JA_copyOfRange E (d + 0) w2 (s.1 a0 8) (s.1 a0 9) s) (Nat.le_of_ble_eq_true rfl) rfl (fun r6 => ?_)
  show sv_V E _ _ _ 15 _ [sv_r E r6.1] r6.2 _
  exact sv_ret (pc := 15) (sv_d k_Lt_excuseSteps 7 rfl) ⟨_, rfl, Or.inr ⟨_, rfl⟩⟩ rfl
/-! Ls_add -/
abbrev m_Ls_add : sv_M := (yX4_add, cX4_add, 4, (some .int))
def t_Ls_add : List (Nat × Instr × Nat) := [(0, .aload_n 0, 1), (1, .getfield 13, 3), (4, .aload_n 0, 1), (5, .getfield 37, 3), (8, .new 11, 3), (11, .dup, 1), (12, .aload_n 0, 1), (13, .getfield 37, 3), (16, .iload_n 1, 1), (17, .iload_n 2, 1), (18, .aload_n 3, 1), (19, .getfield 40, 3), (22, .invokevirtual 46, 3), (25, .checkcast 47, 3), (28, .aload_n 3, 1), (29, .invokevirtual 51, 3), (32, .aload_n 3, 1), (33, .invokevirtual 55, 3), (36, .invokespecial 26, 3), (39, .aastore, 1), (40, .aload_n 0, 1), (41, .iconst (-1), 1), (42, .putfield 33, 3), (45, .aload_n 0, 1), (46, .dup, 1), (47, .getfield 37, 3), (50, .dup_x1, 1), (51, .iconst 1, 1), (52, .iadd, 1), (53, .putfield 37, 3), (56, .ireturn, 1)]
theorem k_Ls_add : sv_tk m_Ls_add.2.1 t_Ls_add := by decide +kernel
theorem g_Ls_add : sv_G m_Ls_add 3 := ⟨by decide +kernel, sv_in 757 (by decide +kernel) rfl, sv_in 94 (by decide +kernel) rfl, ⟨by decide, by decide⟩, by decide +kernel, by decide⟩
theorem in_Ls_add : Cond.instanceMethod m_Ls_add.1 ∈ sv_T := sv_in 755 (by decide +kernel) rfl
theorem se_Ls_add : Cond.selects m_Ls_add.1.cls m_Ls_add.1 m_Ls_add.1 ∈ sv_T := sv_in 756 (by decide +kernel) rfl
def FD_Ls_add (a0 : Nat) (x1 : Int32) (x2 : Int32) (a3 : Nat) (s : sv_H) : Option (Int32 × sv_H) :=
  if sd_ok s a0 4 = true then
    (s.2.2.1 a0 0).bind fun w2 =>
    if sd_ok s a0 4 = true then
      ss_let (sv_nx s) fun w6 =>
      ss_let (sv_mk s 2 0 6) fun s5 =>
      if sd_ok s5 a0 4 = true then
        if sd_ok s5 a3 3 = true then
          (s5.2.2.1 a3 1).bind fun w9 =>
          if sd_ok s5 w9 20 = true then
            ss_let (sv_nx s5) fun w12 =>
            ss_let (sv_mkc s5 w9) fun s11 =>
            if sd_ok s11 w12 20 = true then
              if sd_ok s11 a3 3 = true then
                (FD_Lt_sameSteps a3 s11).bind fun r15 =>
                if sd_ok r15.2 a3 3 = true then
                  (FD_Lt_excuseSteps a3 r15.2).bind fun r17 =>
                  (FD_Lw_init w6 (s5.1 a0 4) x1 x2 w12 r15.1 r17.1 r17.2).bind fun r19 =>
                  if sd_ok r19 w2 25 = true then
                    if sd_ok r19 w6 2 = true then
                      if sv_ib (s.1 a0 4) (sv_ln r19 w2) = true then
                        ss_let (sv_setR r19 w2 (s.1 a0 4).toNatClampNeg (some w6)) fun s21 =>
                        if sd_ok s21 a0 4 = true then
                          ss_let (sv_setI s21 a0 3 (-1 : Int32)) fun s23 =>
                          if sd_ok s23 a0 4 = true then
                            if sd_ok s23 a0 4 = true then
                              ss_let (sv_setI s23 a0 4 ((s23.1 a0 4) + (1 : Int32))) fun s26 =>
                              some (s23.1 a0 4, s26)
                            else none
                          else none
                        else none
                      else none
                    else none
                  else none
                else none
              else none
            else none
          else none
        else none
      else none
    else none
  else none
theorem VD_Ls_add (E : sv_E) (d : Nat) (a0 : Nat) (x1 : Int32) (x2 : Int32) (a3 : Nat) (s : sv_H) : sv_V E m_Ls_add (d + 4) sd_i 0 (lv_args 0 [sv_r E a0, .int x1, .int x2, sv_r E a3]) [] s (FD_Ls_add a0 x1 x2 a3 s) := by
  show sv_V E m_Ls_add (d + 4) sd_i 0 [(0, sv_r E a0), (1, .int x1), (2, .int x2), (3, sv_r E a3)] [] s _
  unfold FD_Ls_add
  refine sv_aload_n (pc := 0) 0 (sv_d k_Ls_add 0 rfl) rfl rfl ?_
  refine sd_gd (fun k_k1 o_k1 l_k1 => ?_)
  refine sd_getR (pc := 1) 0 (sv_d k_Ls_add 1 rfl) cf4 (by decide) w229 k_k1 l_k1 (fun _ => rfl) (fun w2 => ?_)
  refine sv_aload_n (pc := 4) 0 (sv_d k_Ls_add 2 rfl) rfl rfl ?_
  refine sd_gd (fun k_k3 o_k3 l_k3 => ?_)
  refine sv_getf (pc := 5) 4 (sv_d k_Ls_add 3 rfl) cf4 (by decide) w233 k_k3 l_k3 rfl ?_
  refine ss_letr (fun w6 e_w6 => ?_)
  refine sv_new (pc := 8) (sv_d k_Ls_add 4 rfl) cf2 w196 wi2 wn2 (by decide +kernel) (sd_lets (fun s5 e_s5 => ?_))
  rw [← e_w6]
  refine sv_dup (pc := 11) (sv_d k_Ls_add 5 rfl) rfl ?_
  refine sv_aload_n (pc := 12) 0 (sv_d k_Ls_add 6 rfl) rfl rfl ?_
  refine sd_gd (fun k_k7 o_k7 l_k7 => ?_)
  refine sv_getf (pc := 13) 4 (sv_d k_Ls_add 7 rfl) cf4 (by decide) w233 k_k7 l_k7 rfl ?_
  refine sv_iload_n (pc := 16) 1 (sv_d k_Ls_add 8 rfl) rfl rfl ?_
  refine sv_iload_n (pc := 17) 2 (sv_d k_Ls_add 9 rfl) rfl rfl ?_
  refine sv_aload_n (pc := 18) 3 (sv_d k_Ls_add 10 rfl) rfl rfl ?_
  refine sd_gd (fun k_k8 o_k8 l_k8 => ?_)
  refine sd_getRN (pc := 19) 1 (sv_d k_Ls_add 11 rfl) cf3 (by decide) w157 k_k8 l_k8 (fun _ => rfl) (fun w9 => ?_)
  refine sd_gd (fun k_k30 o_k30 l_k30 => ?_)
  refine ss_letr (fun w12 e_w12 => ?_)
  refine sv_clone (pc := 22) (sv_d k_Ls_add 12 rfl) w758 k_k30 o_k30 l_k30 (Nat.le_of_ble_eq_true rfl) (sd_lets (fun s11 e_s11 => ?_))
  rw [← e_w12]
  refine sd_gd (fun k_k13 o_k13 l_k13 => ?_)
  refine sv_castI (pc := 25) (sv_d k_Ls_add 13 rfl) w764 k_k13 o_k13 l_k13 ?_
  refine sv_aload_n (pc := 28) 3 (sv_d k_Ls_add 14 rfl) rfl rfl ?_
  refine sd_gd (fun k_k29 o_k29 l_k29 => ?_)
  refine sv_callV (pc := 29) (ψ := (sd_q E)) (As := []) (rest := [sv_r E w12, .int x2, .int x1, .int (s5.1 a0 4), sv_r E w6, sv_r E w6, .int (s.1 a0 4), sv_r E w2]) (c := a3) (sv_d k_Ls_add 15 rfl) g_Lt_sameSteps w765 in_Lt_sameSteps se_Lt_sameSteps cf3 k_k29 l_k29 rfl (Nat.le_of_ble_eq_true rfl) (VD_Lt_sameSteps E (d + 0) a3 s11) (Nat.le_of_ble_eq_true rfl) rfl (fun r15 => ?_)
  show sv_V E _ _ _ 32 _ [sv_r E r15.1, sv_r E w12, .int x2, .int x1, .int (s5.1 a0 4), sv_r E w6, sv_r E w6, .int (s.1 a0 4), sv_r E w2] r15.2 _
  refine sv_aload_n (pc := 32) 3 (sv_d k_Ls_add 16 rfl) rfl rfl ?_
  refine sd_gd (fun k_k28 o_k28 l_k28 => ?_)
  refine sv_callV16 (pc := 33) (ψ := (sd_q E)) (As := []) (rest := [sv_r E r15.1, sv_r E w12, .int x2, .int x1, .int (s5.1 a0 4), sv_r E w6, sv_r E w6, .int (s.1 a0 4), sv_r E w2]) (c := a3) (sv_d k_Ls_add 17 rfl) g_Lt_excuseSteps (by decide) w784 in_Lt_excuseSteps se_Lt_excuseSteps cf3 k_k28 l_k28 rfl (Nat.le_of_ble_eq_true rfl) (VD_Lt_excuseSteps E (d + 0) a3 r15.2) (Nat.le_of_ble_eq_true rfl) rfl (fun r17 => ?_)
  show sv_V E _ _ _ 36 _ [sv_r E r17.1, sv_r E r15.1, sv_r E w12, .int x2, .int x1, .int (s5.1 a0 4), sv_r E w6, sv_r E w6, .int (s.1 a0 4), sv_r E w2] r17.2 _
  refine sv_callI (pc := 36) (ψ := sd_v) (As := [.int (s5.1 a0 4), .int x1, .int x2, sv_r E w12, sv_r E r15.1, sv_r E r17.1]) (rest := [sv_r E w6, .int (s.1 a0 4), sv_r E w2]) (c := w6) (sv_d k_Ls_add 18 rfl) g_Lw_init rfl rfl w200 in_Lw_init rfl (Nat.le_of_ble_eq_true rfl) (VD_Lw_init E (d + 2) w6 (s5.1 a0 4) x1 x2 w12 r15.1 r17.1 r17.2) (Nat.le_of_ble_eq_true rfl) rfl (fun r19 => ?_)
  show sv_V E _ _ _ 39 _ [sv_r E w6, .int (s.1 a0 4), sv_r E w2] r19 _
  refine sd_gd (fun k_k20 o_k20 l_k20 => ?_)
  refine sd_gd (fun k_k27 o_k27 l_k27 => ?_)
  refine ss_ib (fun hin => sv_aast (pc := 39) (ci := 2) (sv_d k_Ls_add 19 rfl) k_k20 (by decide) (by decide) rfl o_k20 l_k20 hin cf2 k_k27 l_k27 (sd_lets (fun s21 e_s21 => ?_)))
  refine sv_aload_n (pc := 40) 0 (sv_d k_Ls_add 20 rfl) rfl rfl ?_
  refine sv_iconst (pc := 41) (v := (-1 : Int32)) (sv_d k_Ls_add 21 rfl) (by decide) ?_
  refine sd_gd (fun k_k22 o_k22 l_k22 => ?_)
  refine sd_putI (pc := 42) 3 (sv_d k_Ls_add 22 rfl) cf4 (by decide) rfl w232 k_k22 o_k22 l_k22 rfl rfl (fun _ => rfl) (sd_lets (fun s23 e_s23 => ?_))
  refine sv_aload_n (pc := 45) 0 (sv_d k_Ls_add 23 rfl) rfl rfl ?_
  refine sv_dup (pc := 46) (sv_d k_Ls_add 24 rfl) rfl ?_
  refine sd_gd (fun k_k24 o_k24 l_k24 => ?_)
  refine sv_getf (pc := 47) 4 (sv_d k_Ls_add 25 rfl) cf4 (by decide) w233 k_k24 l_k24 rfl ?_
  refine sv_dup_x1 (pc := 50) (sv_d k_Ls_add 26 rfl) rfl rfl ?_
  refine sv_iconst (pc := 51) (v := (1 : Int32)) (sv_d k_Ls_add 27 rfl) (by decide) ?_
  refine sv_iadd (pc := 52) (sv_d k_Ls_add 28 rfl) ?_
  refine sd_gd (fun k_k25 o_k25 l_k25 => ?_)
  refine sd_putI (pc := 53) 4 (sv_d k_Ls_add 29 rfl) cf4 (by decide) rfl w233 k_k25 o_k25 l_k25 rfl rfl (fun _ => rfl) (sd_lets (fun s26 e_s26 => ?_))
  exact sv_ret (pc := 56) (sv_d k_Ls_add 30 rfl) ⟨_, rfl, rfl⟩ rfl
