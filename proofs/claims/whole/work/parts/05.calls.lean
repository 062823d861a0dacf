/-! answers and calls -/
def sv_rm (d mc ms : Nat) : Room := { frames := d, cells := mc, slots := ms, locals := 64 * d }
/-- what a method of ours needs of the tables -/
def sv_G (M : sv_M) (n : Nat) : Prop := plainFor M.1 = true ∧ Cond.code M.1 M.2.1 M.2.2.1 M.2.2.2 ∈ sv_T ∧ Cond.initialized M.1.cls ∈ sv_T ∧ (M.1.cls ≠ "java/lang/invoke/MethodHandle" ∧ M.1.cls ≠ "java/lang/invoke/VarHandle") ∧ (parseMethodDescriptor M.1.desc).map (fun d => d.parameters.length) = some n ∧ M.2.2.1 ≤ 40
def sv_Q (E : sv_E) (r : Option Value) (h' : sv_H) : Array Value → State → Outcome → State → Prop := fun _ st oc t => oc = .returned r ∧ sv_P E t h' t.heap ∧ va_F (fun q => E.1 ≤ q) st t
def sv_Pc (E : sv_E) (As : List Value) (h : sv_H) : Array Value → State → Prop := fun v U => v = As.toArray ∧ sv_K E U ∧ sv_P E U h U.heap ∧ E.1 ≤ U.heap.size
theorem sv_Pc.blind {E : sv_E} {As : List Value} {h : sv_H} : FrameBlind (sv_Pc E As h) := fun a U g mk hp => ⟨hp.1, sv_K.same (s := U) rfl hp.2.1, sv_P.moved (u := U) (U := U.calling g mk a) (Vm.Alike.refl U.vm) hp.2.2.1, hp.2.2.2⟩
theorem sv_ofW {l : Launch} {y : MethodName} {ws ws' : List Cond} {rm : Room} {Pc : Array Value → State → Prop} {Qc : Array Value → State → Outcome → State → Prop} {mc ms : Nat} {free : Addr → Prop} {cc : ByteArray} {maxL : Nat} {ret : Option FieldType}
    (hy : plainFor y = true) (hw : ws = Cond.code y cc maxL ret :: ws')
    (body : ∀ p e s m args below meth c s₁, BodyLoose p l y (headSpec ws rm) cc maxL ret e s m args below meth c s₁ → c.maxLocals = maxL → Pc args s →
      W p l e (headSpec ws rm).room s m args below meth c s.heap [] 0 0 (MQ below Qc args s mc ms free) (entryFrame m args maxL)) : Met l y ws rm Pc Qc mc ms free := by
  refine MetFree.of_bodySF (code := cc) (maxLocals := maxL) (ret := ret) hy ?_ ?_
  · intro args s m h hn
    obtain ⟨meth, c, h1, h2, h3, h4, h5, h6, -, -⟩ := Cond.code_spec hn (atoms_spec (ws := ws) h _ (by rw [hw]; exact List.mem_cons_self))
    exact ⟨meth, c, h1, h2, h3, h4, h5, h6⟩
  · intro p e s m args below meth c s₁ B hml hP _
    have hh0 : s₁.heap = s.heap := by rw [B.state]; rfl
    obtain ⟨t, a1, o, b1, b2, b3⟩ := body p e s m args below meth c s₁ B hml hP s₁ hh0 (Stand.of_body B)
    exact ⟨t, o, a1, b1, b2, ⟨b3.1, b3.2⟩⟩
theorem sv_met {α : Type} {φ : α → Option Value × sv_H} {E : sv_E} {M : sv_M} {d n : Nat} {As : List Value} {h : sv_H} {o : Option α} {a : α} (hG : sv_G M n) (hv : sv_V E M d φ 0 (lv_args 0 As) [] h o) (ho : o = some a) (hn : (lg_sl As).length ≤ M.2.2.1) (l : Launch) :
    Met l M.1 (Cond.code M.1 M.2.1 M.2.2.1 M.2.2.2 :: sv_T) (sv_rm d (sv_nx (φ a).2 - sv_nx h) (sv_sl (φ a).2 - sv_sl h)) (sv_Pc E As h) (sv_Q E (φ a).1 (φ a).2) (sv_nx (φ a).2 - sv_nx h) (sv_sl (φ a).2 - sv_sl h) (fun q => E.1 ≤ q) := by
  refine sv_ofW (cc := M.2.1) (maxL := M.2.2.1) (ret := M.2.2.2) hG.1 rfl ?_
  intro p e s m args below meth c s₁ B hml hPc
  obtain ⟨rfl, hK, hP, hB⟩ := hPc
  obtain ⟨⟨hm, hm2, hr⟩, hv⟩ := hv a ho
  have hts0 := atoms_spec (ws := Cond.code M.1 M.2.1 M.2.2.1 M.2.2.2 :: sv_T) B.pre
  have hts : ∀ w ∈ sv_T, w.before As.toArray s = true := fun w hw => hts0 w (List.mem_cons_of_mem _ hw)
  have hlocks := B.notSynchronized
  rw [lg_entry_eq]
  refine hv p l e _ s m As.toArray below meth c s.heap [] 0 0 _ _ (sv_nx h) (sv_sl h) ⟨B.exec, B.bytes, hml, findClass_of_methodNamed B.named, hts, B.returns, hlocks, (name_of_methodNamed B.named B.method).1⟩ hK hP va_S.rf hB ⟨Nat.le_refl _, Nat.le_refl _, ?_, ?_⟩ (by omega) (by omega) (lv_entry As hn) ?_
  · show sv_nx (φ a).2 ≤ (sv_nx (φ a).2 - sv_nx h) + sv_nx h
    omega
  · show sv_sl (φ a).2 ≤ (sv_sl (φ a).2 - sv_sl h) + sv_sl h
    omega
  · intro H' locs' cells' slots' pc ls hd hP' hS' hc' hs'
    have e1 : cells' = sv_nx (φ a).2 - sv_nx h := by omega
    have e2 : slots' = sv_sl (φ a).2 - sv_sl h := by omega
    subst e1
    subst e2
    have hq : ∀ t : State, t.heap = H' → s.WarmedH t.vm → sv_Q E (φ a).1 (φ a).2 As.toArray s (.returned (φ a).1) t := fun t ht hW => ⟨rfl, by rw [ht]; exact hP'.moved hW.alike, hS'.F ht⟩
    have hf : ∀ q ∈ locs', (fun q => E.1 ≤ q) q.base := hS'.2.2
    have hret := B.returns
    revert hr hd hret hq
    generalize (φ a).1 = r
    generalize M.2.2.2 = t
    intro hr hd hq hret
    match t, hr, hd, hret with
    | none, hr, hd, hret =>
      have hr : r = none := hr
      subst hr
      exact W.vret B.exec B.bytes hret hq hf hd
    | some .long, hr, hd, hret =>
      obtain ⟨v, rfl⟩ := hr
      exact W.lret B.exec B.bytes hret hq hf hd
    | some (.object C), hr, hd, hret =>
      obtain ⟨v, rfl, hv⟩ := hr
      exact W.aret B.exec B.bytes hret (Or.inl ⟨_, rfl⟩) hv hq hf hd
    | some (.array C), hr, hd, hret =>
      obtain ⟨v, rfl, hv⟩ := hr
      exact W.aret B.exec B.bytes hret (Or.inr ⟨_, rfl⟩) hv hq hf hd
    | some .int, hr, hd, hret =>
      obtain ⟨v, rfl, hn⟩ := hr
      exact W.zret B.exec B.bytes hret hn hq hf hd
    | some .boolean, hr, hd, hret =>
      obtain ⟨v, rfl, hn⟩ := hr
      exact W.zret B.exec B.bytes hret hn hq hf hd
    | some .byte, hr, hd, hret =>
      obtain ⟨v, rfl, hn⟩ := hr
      exact W.zret B.exec B.bytes hret hn hq hf hd
    | some .char, hr, hd, hret =>
      obtain ⟨v, rfl, hn⟩ := hr
      exact W.zret B.exec B.bytes hret hn hq hf hd
    | some .short, hr, hd, hret =>
      obtain ⟨v, rfl, hn⟩ := hr
      exact W.zret B.exec B.bytes hret hn hq hf hd
    | some .float, hr, hd, hret =>
      obtain ⟨v, rfl, hn⟩ := hr
      exact W.zret B.exec B.bytes hret hn hq hf hd
    | some .double, hr, hd, hret =>
      obtain ⟨v, rfl, hn⟩ := hr
      exact W.zret B.exec B.bytes hret hn hq hf hd
section SV5
variable {p : Program} {l : Launch} {e : Env} {R : Room} {s : State} {m : MethodId} {args : Array Value} {below : List Frame} {meth : Method} {c : Code} {H : Heap} {locs : List Loc} {cells slots : Nat} {Q : State → Prop} {E : sv_E}
theorem sv_go {pc : Nat} {ls : Array Slot} {rest st0 : List Value} {a : Array Value} {mc ms : Nat} {r : Option Value} {h' : sv_H} (hr : va_Run p l e R s m args below meth c H locs cells slots mc ms (F0 m pc ls st0) rest (sv_Q E r h' a) (fun q => E.1 ≤ q)) (hS : va_S (fun q => E.1 ≤ q) s.heap H locs)
    (kk : ∀ (H1 : Heap) (locs1 : List Loc), sv_P E s h' H1 → va_S (fun q => E.1 ≤ q) s.heap H1 locs1 → W p l e R s m args below meth c H1 locs1 (cells + mc) (slots + ms) Q (F0 m (pc + 3) ls (r.toList ++ rest))) : W p l e R s m args below meth c H locs cells slots Q (F0 m pc ls st0) := by
  intro T hT X
  obtain ⟨v, st₀, t, T', L, h0, X', hL, e1, e2, ⟨hv, hp, hz, hk⟩, st⟩ := hr T hT X
  cases hv
  rw [h0] at hz hk
  obtain ⟨t2, a1, b1⟩ := kk T'.heap (locs ++ L) (by rw [e1]; exact hp.moved (by rw [← e2]; exact X'.warmed.alike.symm))
    ⟨Nat.le_trans hS.1 (by rw [e1]; exact hz), fun q h1 h2 => by rw [e1, hk q (Nat.lt_of_lt_of_le h1 hS.1) h2]; exact hS.2.1 q h1 h2, fun q hq => by
      rcases List.mem_append.mp hq with h | h
      · exact hS.2.2 q h
      · exact hL q h⟩ T' rfl X'
  exact ⟨t2, st t2 a1, b1⟩
end SV5
section SV6
variable {α β : Type} {E : sv_E} {M Mc : sv_M} {d pc n index : Nat} {φ : α → Option Value × sv_H} {ψ : β → Option Value × sv_H} {lv : List (Nat × Value)} {rest As : List Value} {h : sv_H} {oc : Option β} {kf : β → Option α}
theorem sv_ret {v : Value} {a : α} (hd : decode M.2.1 pc = .ok (sv_ri M.2.2.2, 1)) (hr : sv_rt M.2.2.2 (some v)) (ha : φ a = (some v, h)) : sv_V E M d φ pc lv [v] h (some a) := by
  intro a' ho
  cases ho
  rw [ha]
  refine ⟨⟨Nat.le_refl _, Nat.le_refl _, hr⟩, ?_⟩
  intro p l e R s m args below meth c H locs cells slots Z ls c0 s0 Fx hK hP hS hB hR hc hs hl hE
  exact hE H locs cells slots pc ls hd hP hS hc hs
theorem sv_retv {a : α} (hd : decode M.2.1 pc = .ok (sv_ri M.2.2.2, 1)) (hr : sv_rt M.2.2.2 none) (ha : φ a = (none, h)) : sv_V E M d φ pc lv [] h (some a) := by
  intro a' ho
  cases ho
  rw [ha]
  refine ⟨⟨Nat.le_refl _, Nat.le_refl _, hr⟩, ?_⟩
  intro p l e R s m args below meth c H locs cells slots Z ls c0 s0 Fx hK hP hS hB hR hc hs hl hE
  exact hE H locs cells slots pc ls hd hP hS hc hs
/-- a call: the run of it, by kind, then what is behind -/
theorem sv_call {st0 : List Value} (hG : sv_G Mc n) (hc : sv_V E Mc d ψ 0 (lv_args 0 As) [] h oc) (hAs : (lg_sl As).length ≤ Mc.2.2.1)
    (run : ∀ {p : Program} {l : Launch} {e : Env} {R : Room} {s : State} {m : MethodId} {args : Array Value} {below : List Frame} {meth : Method} {c : Code} {H : Heap} {locs : List Loc} {cells slots : Nat} {ls : Array Slot} {r : Option Value} {h' : sv_H} {mc ms : Nat}, sv_Fx M p s m args meth c → sv_K E s → sv_P E s h H → ls.size = M.2.2.1 → (∀ U : State, U.heap = H → s.WarmedH U.vm → sv_Pc E As h As.toArray U) → d + 1 ≤ R.frames → 64 * (d + 1) ≤ R.locals → cells + mc ≤ R.cells ∧ slots + ms ≤ R.slots →
      Met l Mc.1 (Cond.code Mc.1 Mc.2.1 Mc.2.2.1 Mc.2.2.2 :: sv_T) (sv_rm d mc ms) (sv_Pc E As h) (sv_Q E r h') mc ms (fun q => E.1 ≤ q) → ∃ a, va_Run p l e R s m args below meth c H locs cells slots mc ms (F0 m pc ls st0) rest (sv_Q E r h' a) (fun q => E.1 ≤ q))
    (k : ∀ b, sv_V E M (d + 1) φ (pc + 3) lv ((ψ b).1.toList ++ rest) (ψ b).2 (kf b)) : sv_V E M (d + 1) φ pc lv st0 h (oc.bind kf) := by
  intro a ho
  obtain ⟨b, hb, hk⟩ := Option.bind_eq_some_iff.mp ho
  obtain ⟨⟨hm, hm2, hr⟩, k⟩ := k b a hk
  obtain ⟨⟨hm3, hm4, -⟩, -⟩ := hc b hb
  refine ⟨⟨by omega, by omega, hr⟩, ?_⟩
  intro p l e R s m args below meth c H locs cells slots Z ls c0 s0 Fx hK hP hS hB hR hc0 hs0 hl hE
  obtain ⟨r1, r2, r3, r4⟩ := hR
  have hfit : cells + (sv_nx (ψ b).2 - sv_nx h) ≤ R.cells ∧ slots + (sv_sl (ψ b).2 - sv_sl h) ≤ R.slots := by constructor <;> omega
  obtain ⟨ar, hrun⟩ := run (l := l) (e := e) (below := below) (locs := locs) (ls := ls) Fx hK hP hl.1 (fun U hU hW => ⟨rfl, hK.warm hW, by rw [hU]; exact hP.moved hW.alike, by rw [hU]; exact Nat.le_trans hB hS.1⟩) r1 r2 hfit (sv_met hG hc hb hAs l)
  exact sv_go hrun hS (fun H1 locs1 hP1 hS1 => k p l e R s m args below meth c H1 locs1 _ _ Z ls c0 s0 Fx hK hP1 hS1 hB ⟨r1, r2, r3, r4⟩ (by omega) (by omega) hl hE)
theorem sv_rooms {R : Room} {mc ms : Nat} (hG : sv_G Mc n) (r1 : d + 1 ≤ R.frames) (r2 : 64 * (d + 1) ≤ R.locals) : (sv_rm d mc ms).frames + 1 ≤ R.frames ∧ 8 + (Mc.2.2.1 + 11) + (sv_rm d mc ms).locals ≤ R.locals := by
  have := hG.2.2.2.2.2
  exact ⟨r1, by show 8 + (Mc.2.2.1 + 11) + 64 * d ≤ R.locals; omega⟩
theorem sv_callS (hd : decode M.2.1 pc = .ok (.invokestatic index, 3)) (hG : sv_G Mc n) (hln : Cond.methodLink M.1.cls index Mc.1 ∈ sv_T) (hst : Cond.static Mc.1 ∈ sv_T) (hn : As.length = n) (hrest : (rest.map fun v => v.category).sum ≤ 8) (hc : sv_V E Mc d ψ 0 (lv_args 0 As) [] h oc) (hAs : (lg_sl As).length ≤ Mc.2.2.1) {st0 : List Value} (hst0 : As.reverse ++ rest = st0)
    (k : ∀ b, sv_V E M (d + 1) φ (pc + 3) lv ((ψ b).1.toList ++ rest) (ψ b).2 (kf b)) : sv_V E M (d + 1) φ pc lv st0 h (oc.bind kf) := by
  refine sv_call hG hc hAs (fun {p l e R s m args below meth c H locs cells slots ls r h' mc ms} Fx hK hP hsz hPc r1 r2 hfit hM => ⟨_, va_runS (As := As) (rest := rest) ⟨Fx.1, Fx.2.1, Fx.2.2.1, Fx.2.2.2.1, Fx.2.2.2.2.1⟩ hM ⟨callB_of (ws' := sv_T) n Fx.2.2.2.2.1 (fun w hw => ?_) rfl rfl rfl (Fx.2.2.2.2.1 _ hG.2.2.1) (Fx.2.2.2.2.1 _ hln) ⟨hG.2.2.2.1.1, hG.2.2.2.1.2, hG.2.2.2.2.1⟩ (sv_rooms hG r1 r2), Fx.2.2.2.2.1 _ hst⟩ ⟨sv_Pc.blind, hPc⟩ rfl hn hsz hst0.symm (lv_room hrest) hd hfit⟩) k
  rcases List.mem_cons.mp hw with rfl | hw
  · exact sv_T_good _ hG.2.1
  · exact sv_T_good _ hw
theorem sv_recv {s : State} {H : Heap} {c kk : Nat} {C : String} {T : u_T} {N : Nat} {ty : Nat → FieldType} (hK : sv_K E s) (hP : sv_P E s h H) (hcf : sv_CF kk C T N ty) (hkd : sv_kd h c = kk) (hlt : c < sv_nx h) : ∃ cell : Cell, H[sv_ad E c]? = some cell ∧ cell.vm.isStatics = false ∧ s.vm.findClass C = some cell.cls := by
  obtain ⟨q, hq, cell, q1, q2, q3, q4⟩ := hP.obj hkd hcf.2.1 hlt
  exact ⟨cell, q1, by rw [q3]; rfl, by rw [q2]; exact (hK.2.1 kk _ hcf.1).2.1⟩
theorem sv_callV {c kk : Nat} {T : u_T} {N : Nat} {ty : Nat → FieldType} (hd : decode M.2.1 pc = .ok (.invokevirtual index, 3)) (hG : sv_G Mc n) (hln : Cond.methodLink M.1.cls index Mc.1 ∈ sv_T) (hin : Cond.instanceMethod Mc.1 ∈ sv_T) (hse : Cond.selects Mc.1.cls Mc.1 Mc.1 ∈ sv_T) (hcf : sv_CF kk Mc.1.cls T N ty) (hkd : sv_kd h c = kk) (hlt : c < sv_nx h) (hn : As.length = n) (hrest : (rest.map fun v => v.category).sum ≤ 8) (hc : sv_V E Mc d ψ 0 (lv_args 0 (sv_r E c :: As)) [] h oc) (hAs : (lg_sl (sv_r E c :: As)).length ≤ Mc.2.2.1) {st0 : List Value} (hst0 : As.reverse ++ sv_r E c :: rest = st0)
    (k : ∀ b, sv_V E M (d + 1) φ (pc + 3) lv ((ψ b).1.toList ++ rest) (ψ b).2 (kf b)) : sv_V E M (d + 1) φ pc lv st0 h (oc.bind kf) := by
  refine sv_call hG hc hAs (fun {p l e R s m args below meth cd H locs cells slots ls r h' mc ms} Fx hK hP hsz hPc r1 r2 hfit hM => ⟨_, va_runV (As := As) (rest := rest) (C := Mc.1.cls) ⟨Fx.1, Fx.2.1, Fx.2.2.1, Fx.2.2.2.1, Fx.2.2.2.2.1⟩ hM ⟨callB_of (ws' := sv_T) n Fx.2.2.2.2.1 (fun w hw => ?_) rfl rfl rfl (Fx.2.2.2.2.1 _ hG.2.2.1) (Fx.2.2.2.2.1 _ hln) ⟨hG.2.2.2.1.1, hG.2.2.2.1.2, hG.2.2.2.2.1⟩ (sv_rooms hG r1 r2), Fx.2.2.2.2.1 _ hin, Fx.2.2.2.2.1 _ hse⟩ ⟨sv_Pc.blind, sv_recv hK hP hcf hkd hlt, hPc⟩ rfl hn hsz hst0.symm (lv_room hrest) hd hfit⟩) k
  rcases List.mem_cons.mp hw with rfl | hw
  · exact sv_T_good _ hG.2.1
  · exact sv_T_good _ hw
theorem sv_callI {c : Nat} (hd : decode M.2.1 pc = .ok (.invokespecial index, 3)) (hG : sv_G Mc n) (hv : Mc.2.2.2 = none) (hnm : Mc.1.name = "<init>") (hln : Cond.methodLink M.1.cls index Mc.1 ∈ sv_T) (hin : Cond.instanceMethod Mc.1 ∈ sv_T) (hn : As.length = n) (hrest : (rest.map fun v => v.category).sum ≤ 8) (hc : sv_V E Mc d ψ 0 (lv_args 0 (sv_r E c :: As)) [] h oc) (hAs : (lg_sl (sv_r E c :: As)).length ≤ Mc.2.2.1) {st0 : List Value} (hst0 : As.reverse ++ sv_r E c :: rest = st0)
    (k : ∀ b, sv_V E M (d + 1) φ (pc + 3) lv ((ψ b).1.toList ++ rest) (ψ b).2 (kf b)) : sv_V E M (d + 1) φ pc lv st0 h (oc.bind kf) := by
  obtain ⟨y, bytes, mL, ret⟩ := Mc
  have hv : ret = none := hv
  subst hv
  refine sv_call hG hc hAs (fun {p l e R s m args below meth cd H locs cells slots ls r h' mc ms} Fx hK hP hsz hPc r1 r2 hfit hM => ⟨_, va_runI (As := As) (rest := rest) ⟨Fx.1, Fx.2.1, Fx.2.2.1, Fx.2.2.2.1, Fx.2.2.2.2.1⟩ hM ⟨callB_of (ws' := sv_T) n Fx.2.2.2.2.1 (fun w hw => ?_) rfl rfl rfl (Fx.2.2.2.2.1 _ hG.2.2.1) (Fx.2.2.2.2.1 _ hln) ⟨hG.2.2.2.1.1, hG.2.2.2.1.2, hG.2.2.2.2.1⟩ (sv_rooms hG r1 r2), hnm, Fx.2.2.2.2.1 _ hin⟩ ⟨sv_Pc.blind, hPc⟩ rfl hn hsz hst0.symm (lv_room hrest) hd hfit⟩) k
  rcases List.mem_cons.mp hw with rfl | hw
  · exact sv_T_good _ hG.2.1
  · exact sv_T_good _ hw
theorem sv_callIN {c : Nat} {host : String} (hd : decode M.2.1 pc = .ok (.invokespecial index, 3)) (hG : sv_G Mc n) (hv : Mc.2.2.2 = none) (hnm : Mc.1.name = "<init>") (hln : Cond.methodLinkNest M.1.cls index Mc.1 host ∈ sv_N) (hin : Cond.instanceMethod Mc.1 ∈ sv_T) (hn : As.length = n) (hrest : (rest.map fun v => v.category).sum ≤ 8) (hc : sv_V E Mc d ψ 0 (lv_args 0 (sv_r E c :: As)) [] h oc) (hAs : (lg_sl (sv_r E c :: As)).length ≤ Mc.2.2.1) {st0 : List Value} (hst0 : As.reverse ++ sv_r E c :: rest = st0)
    (k : ∀ b, sv_V E M (d + 1) φ (pc + 3) lv ((ψ b).1.toList ++ rest) (ψ b).2 (kf b)) : sv_V E M (d + 1) φ pc lv st0 h (oc.bind kf) := by
  obtain ⟨y, bytes, mL, ret⟩ := Mc
  have hv : ret = none := hv
  subst hv
  refine sv_call hG hc hAs (fun {p l e R s m args below meth cd H locs cells slots ls r h' mc ms} Fx hK hP hsz hPc r1 r2 hfit hM => ⟨_, va_runIN (As := As) (rest := rest) ⟨Fx.1, Fx.2.1, Fx.2.2.1, Fx.2.2.2.1, Fx.2.2.2.2.1⟩ hM ⟨va_cnB (ws' := sv_T) n Fx.2.2.2.2.1 (fun w hw => ?_) rfl rfl rfl (hK.2.2.1 _ hln) (Fx.2.2.2.2.1 _ hG.2.2.1) ⟨hG.2.2.2.1.1, hG.2.2.2.1.2, hG.2.2.2.2.1⟩ (sv_rooms hG r1 r2), hnm, Fx.2.2.2.2.1 _ hin⟩ ⟨sv_Pc.blind, hPc⟩ rfl hn hsz hst0.symm (lv_room hrest) hd hfit⟩) k
  rcases List.mem_cons.mp hw with rfl | hw
  · exact sv_T_good _ hG.2.1
  · exact sv_T_good _ hw
end SV6
