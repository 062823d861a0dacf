/-! THE PICTURE: a run's heap as numbers. A cell has a code: below 64 one that was there before the law began, from 64 on one that the law's run made, in their order; sv_ad gives its address. -/
abbrev sv_E : Type := Nat × va_G × (Nat → Nat)
def sv_ad (E : sv_E) (c : Nat) : Nat := if c < 64 then E.2.2 c else E.1 + (c - 64)
def sv_r (E : sv_E) (c : Nat) : Value := .ref (sv_ad E c)
def sv_rf (E : sv_E) (o : Option Nat) : Value := match o with
  | some c => .ref (sv_ad E c)
  | none => .null
/-- ints, longs, references (by cell and place), lengths, kinds, the next code, slots so far -/
abbrev sv_H : Type := (Nat → Nat → Int32) × (Nat → Nat → Int64) × (Nat → Nat → Option Nat) × (Nat → Nat) × (Nat → Nat) × Nat × Nat
abbrev sv_gI (h : sv_H) : Nat → Nat → Int32 := h.1
abbrev sv_gL (h : sv_H) : Nat → Nat → Int64 := h.2.1
abbrev sv_gR (h : sv_H) : Nat → Nat → Option Nat := h.2.2.1
abbrev sv_ln (h : sv_H) : Nat → Nat := h.2.2.2.1
abbrev sv_kd (h : sv_H) : Nat → Nat := h.2.2.2.2.1
abbrev sv_nx (h : sv_H) : Nat := h.2.2.2.2.2.1
abbrev sv_sl (h : sv_H) : Nat := h.2.2.2.2.2.2
def sv_up {α : Type} (f : Nat → Nat → α) (c k : Nat) (v : α) : Nat → Nat → α := fun a j => if a = c ∧ j = k then v else f a j
def sv_u1 {α : Type} (f : Nat → α) (c : Nat) (v : α) : Nat → α := fun a => if a = c then v else f a
def sv_setI (h : sv_H) (c k : Nat) (v : Int32) : sv_H := (sv_up h.1 c k v, h.2)
def sv_setL (h : sv_H) (c k : Nat) (v : Int64) : sv_H := (h.1, sv_up h.2.1 c k v, h.2.2)
def sv_setR (h : sv_H) (c k : Nat) (v : Option Nat) : sv_H := (h.1, h.2.1, sv_up h.2.2.1 c k v, h.2.2.2)
/-- the value at a place of a cell, by its type -/
def sv_fv (E : sv_E) (h : sv_H) (c : Nat) (ty : FieldType) (j : Nat) : Value := match ty with
  | .long => .long (h.2.1 c j)
  | .object _ => sv_rf E (h.2.2.1 c j)
  | .array _ => sv_rf E (h.2.2.1 c j)
  | _ => .int (h.1 c j)
def sv_tyX : Nat → Nat → FieldType := fun k => match k with
  | 0 => tyX0
  | 1 => tyX1
  | 2 => tyX2
  | 3 => tyX3
  | 4 => tyX4
  | 5 => tyX5
  | 6 => tyX6
  | 7 => tyX7
  | 8 => tyX8
  | 9 => tyX9
  | 10 => tyX10
  | 11 => tyX11
  | _ => tyX12
/-- kinds from 20 on: arrays of these -/
def sv_aty : Nat → FieldType := fun k => match k with
  | 20 => .int
  | 21 => .long
  | 22 => .byte
  | 23 => .boolean
  | 24 => .object "PennyRates$Rate"
  | 25 => .object "PennyRates$Law"
  | 26 => .array .int
  | _ => .array .long
def sv_obj (E : sv_E) (h : sv_H) (H : Heap) (c k : Nat) : Prop := ∃ q : vw_C, vwCl[k]? = some q ∧ t_OB (sv_ad E c) (E.2.1.1 k) q.2.2 (E.2.1.2 k) H (fun j => sv_fv E h c (sv_tyX k j) j)
def sv_ra (s : State) (cell : Cell) (ty : FieldType) : Prop := match ty with
  | .object C => ∃ (kA : Class) (comp : ClassId), s.vm.classes[cell.cls]? = some kA ∧ kA.kind = .array comp (.object C) ∧ s.vm.findClass C = some comp
  | _ => True
def sv_arr (E : sv_E) (s : State) (h : sv_H) (H : Heap) (c : Nat) (ty : FieldType) : Prop := ∃ cell : Cell, H[sv_ad E c]? = some cell ∧ s.isArrayOf cell ty ∧ cell.vm ≠ .unknown ∧ (sv_ln h c ≤ cell.slots.size ∧ cell.slots.size.toInt32 = Int32.ofNat (sv_ln h c)) ∧ (∀ j, j < sv_ln h c → cell.slots[j]? = some (sv_fv E h c ty j)) ∧ (64 ≤ c → ∃ cA : ClassId, cell = arrV cA (sv_ln h c) (fun j => sv_fv E h c ty j) ∧ s.vm.findClass ("[" ++ ty.toString) = some cA) ∧ sv_ra s cell ty
/-- a String of the class's own texts -/
def sv_str (E : sv_E) (s : State) (h : sv_H) (H : Heap) (c : Nat) : Prop := va_O "java/lang/String" (sv_ad E c) (fun a => E.1 ≤ a) s H ∧ va_OF "java/lang/String" "value" "[B" (sv_rf E (h.2.2.1 c 0)) (sv_ad E c) (fun a => E.1 ≤ a) s H ∧ va_OF "java/lang/String" "coder" "B" (.int (h.1 c 1)) (sv_ad E c) (fun a => E.1 ≤ a) s H
def sv_cell (E : sv_E) (s : State) (h : sv_H) (H : Heap) (c : Nat) : Prop := if sv_kd h c < 13 then sv_obj E h H c (sv_kd h c) else if sv_kd h c < 28 then sv_arr E s h H c (sv_aty (sv_kd h c)) else if sv_kd h c = 30 then sv_str E s h H c else True
/-- statics that nobody writes -/
def sv_fm (E : sv_E) : Value := if E.2.2 65 = 0 then .null else .ref (E.2.2 64)
def sv_sta (E : sv_E) : List (String × String × String × Value) := [("PennyRates$Acts", "ABOVE", "[I", sv_r E 1), ("PennyRates$Acts", "BODIES", "[I", sv_r E 2), ("java/lang/String", "COMPACT_STRINGS", "Z", .int 1), ("jdk/internal/util/Preconditions", "SIOOBE_FORMATTER", "Ljava/util/function/BiFunction;", sv_fm E)]
def sv_txt (i : Nat) : String := ["good", "term", "small", "notice", "back", "gain", "miles", "even", "most", "same", "excuse"].getD i ""
def sv_X (E : sv_E) (s : State) (H : Heap) : Prop := ∀ q ∈ sv_sta E, va_Z q.1 q.2.1 q.2.2.1 q.2.2.2 (fun a => E.1 ≤ a) s H
def sv_P (E : sv_E) (s : State) (h : sv_H) (H : Heap) : Prop := H.size + 64 = E.1 + sv_nx h ∧ 64 ≤ sv_nx h ∧ (∀ c, c < sv_nx h → sv_cell E s h H c) ∧ sv_X E s H
def sv_AA (t : FieldType) (U : State) : Prop := (Cond.arrayOver (.array t)).before #[] U = true
theorem sv_AA.moved {t : FieldType} {u U : State} (hvm : u.vm.Alike U.vm) (h : sv_AA t u) : sv_AA t U := by
  obtain ⟨comp, c, k, h1, h2, h3, h4, h5⟩ := arrayOverA_spec h
  obtain ⟨k', hk', he⟩ := hvm.2.2 _ _ h3
  have hi : (U.vm.classes.findIdx? fun (x : Class) => match x.kind with | .array component _ => component == comp | _ => false) = some c := by
    rw [hvm.findIdx?_eq _ (fun _ => rfl)]
    exact h2
  have hkind : k'.kind = .array comp (.array t) := by rw [he]; exact h4
  have f1 : U.vm.findClass (FieldType.array t).toString = some comp := by rw [hvm.findClass]; exact h1
  have f2 : U.vm.findClass ("[" ++ (FieldType.array t).toString) = some c := by rw [hvm.findClass]; exact h5
  unfold sv_AA Cond.before Cond.holds
  simp only [Cond.value]
  rw [f1, Option.bind_some]
  refine (congrArg (fun o : Option Nat => (o.bind (fun c => (U.vm.classes[c]?).map fun (k : Class) => match k.kind with | .array _ ty => decide (ty = FieldType.array t) && decide (U.vm.findClass ("[" ++ (FieldType.array t).toString) = some c) | _ => false) == some true)) hi).trans ?_
  simp [hk', hkind, f2]
def sv_Cl (U : State) : Prop := ∃ c t : ClassId, U.vm.findClass "[I" = some c ∧ U.vm.findClass "java/lang/Cloneable" = some t ∧ U.vm.assignable c t = true
theorem sv_Cl.moved {u U : State} (hvm : u.vm.Alike U.vm) (h : sv_Cl u) : sv_Cl U := by
  obtain ⟨c, t, h1, h2, h3⟩ := h
  exact ⟨c, t, by rw [hvm.findClass]; exact h1, by rw [hvm.findClass]; exact h2, by rw [hvm.assignable]; exact h3⟩
def sv_A (s : State) : Prop := va_AO "PennyRates$Rate" s ∧ va_AO "PennyRates$Law" s ∧ sv_AA .int s ∧ sv_AA .long s ∧ sv_Cl s
theorem sv_A.moved {u U : State} (hvm : u.vm.Alike U.vm) (h : sv_A u) : sv_A U := ⟨va_AO.moved hvm h.1, va_AO.moved hvm h.2.1, sv_AA.moved hvm h.2.2.1, sv_AA.moved hvm h.2.2.2.1, sv_Cl.moved hvm h.2.2.2.2⟩
def sv_K (E : sv_E) (s : State) : Prop := (∀ c, c < 64 → E.2.2 c < E.1) ∧ (∀ (k : Nat) (q : vw_C), vwCl[k]? = some q → u_Kn s q.1 q.2.1 q.2.2 (E.2.1.1 k) (E.2.1.2 k)) ∧ (∀ w ∈ sv_N, va_Nw w s) ∧ (∀ i, i < 11 → vk_R "PennyRates$LawText" (82 + 2 * i) (sv_txt i) (sv_ad E (3 + i)) s) ∧ sv_A s
theorem sv_K.warm {E : sv_E} {s U : State} (hW : s.WarmedH U.vm) (h : sv_K E s) : sv_K E U := by
  refine ⟨h.1, fun k q hq => u_Kn_moved hW.alike (h.2.1 k q hq), fun w hw => ?_, fun i hi => vk_R.warm hW (h.2.2.2.1 i hi), h.2.2.2.2.moved hW.alike⟩
  have h1 := h.2.2.1 w hw
  have h2 := (List.mem_filter.mp hw).2
  cases w <;> first | (simp [sv_isN] at h2; done) | exact va_Nw.warmF hW h1 | exact va_Nw.warmM hW h1
theorem sv_K.same {E : sv_E} {s U : State} (hv : s.vm = U.vm) (h : sv_K E s) : sv_K E U := by
  refine ⟨h.1, fun k q hq => u_Kn_moved (by rw [hv]; exact Vm.Alike.refl _) (h.2.1 k q hq), fun w hw => ?_, fun i hi => vk_R.same hv.symm (h.2.2.2.1 i hi), h.2.2.2.2.moved (by rw [hv]; exact Vm.Alike.refl _)⟩
  have h1 := h.2.2.1 w hw
  have h2 := (List.mem_filter.mp hw).2
  exact va_Nw.same (by cases w <;> first | (simp [sv_isN] at h2; done) | rfl) hv h1
theorem sv_ra.moved {u U : State} (hvm : u.vm.Alike U.vm) {cell : Cell} {ty : FieldType} (h : sv_ra u cell ty) : sv_ra U cell ty := by
  cases ty with
  | object C =>
    obtain ⟨kA, comp, h1, h2, h3⟩ := h
    obtain ⟨k', hk', he⟩ := hvm.2.2 _ _ h1
    exact ⟨k', comp, hk', by rw [he]; exact h2, by rw [hvm.findClass]; exact h3⟩
  | _ => trivial
theorem sv_cell.moved {E : sv_E} {u U : State} (hvm : u.vm.Alike U.vm) {h : sv_H} {H : Heap} {c : Nat} (hc : sv_cell E u h H c) : sv_cell E U h H c := by
  unfold sv_cell at hc ⊢
  split
  · next h1 => rw [if_pos h1] at hc; exact hc
  · next h1 =>
    rw [if_neg h1] at hc
    split
    · next h2 =>
      rw [if_pos h2] at hc
      obtain ⟨cell, a1, a2, a3, a4, a5, a6, a7⟩ := hc
      exact ⟨cell, a1, State.isArrayOf_alike hvm a2, a3, a4, a5, fun h => (by obtain ⟨cA, h1, h2⟩ := a6 h; exact ⟨cA, h1, by rw [hvm.findClass]; exact h2⟩), a7.moved hvm⟩
    · next h2 =>
      rw [if_neg h2] at hc
      split
      · next h3 => rw [if_pos h3] at hc; exact ⟨va_O.moved hvm hc.1, va_OF.moved hvm hc.2.1, va_OF.moved hvm hc.2.2⟩
      · trivial
theorem sv_X.moved {E : sv_E} {u U : State} (hvm : u.vm.Alike U.vm) {H : Heap} (h : sv_X E u H) : sv_X E U H := fun q hq => (h q hq).moved hvm
theorem sv_P.moved {E : sv_E} {u U : State} (hvm : u.vm.Alike U.vm) {h : sv_H} {H : Heap} (hP : sv_P E u h H) : sv_P E U h H := ⟨hP.1, hP.2.1, fun c hc => (hP.2.2.1 c hc).moved hvm, hP.2.2.2.moved hvm⟩
/-- a method: its name, code, locals, answer -/
abbrev sv_M : Type := MethodName × ByteArray × Nat × Option FieldType
def sv_Fx (M : sv_M) (p : Program) (s : State) (m : MethodId) (args : Array Value) (meth : Method) (c : Code) : Prop := p.tables.exec = Jvm.exec ∧ c.code = M.2.1 ∧ c.maxLocals = M.2.2.1 ∧ s.vm.findClass M.1.cls = some m.cls ∧ (∀ w ∈ sv_T, w.before args s = true) ∧ meth.sig.returnType = M.2.2.2 ∧ meth.locks = false ∧ meth.name = M.1.name
def sv_ri (t : Option FieldType) : Instr := match t with
  | none => .return_
  | some .long => .lreturn
  | some (.object _) => .areturn
  | some (.array _) => .areturn
  | some _ => .ireturn
def sv_Rm (R : Room) (d c0 s0 : Nat) (h' : sv_H) : Prop := d ≤ R.frames ∧ 64 * d ≤ R.locals ∧ sv_nx h' ≤ R.cells + c0 ∧ sv_sl h' ≤ R.slots + s0
def sv_End (E : sv_E) (M : sv_M) (r : Option Value) (h' : sv_H) (p : Program) (l : Launch) (e : Env) (R : Room) (s : State) (m : MethodId) (args : Array Value) (below : List Frame) (meth : Method) (c : Code) (c0 s0 : Nat) (Z : State → Prop) : Prop :=
  ∀ (H' : Heap) (locs' : List Loc) (cells' slots' pc : Nat) (ls : Array Slot), decode M.2.1 pc = .ok (sv_ri M.2.2.2, 1) → sv_P E s h' H' → va_S (fun q => E.1 ≤ q) s.heap H' locs' → cells' + c0 = sv_nx h' → slots' + s0 = sv_sl h' →
    W p l e R s m args below meth c H' locs' cells' slots' Z (F0 m pc ls r.toList)
def sv_rt (t : Option FieldType) (r : Option Value) : Prop := match t with
  | none => r = none
  | some .long => ∃ v : Int64, r = some (.long v)
  | some (.object _) => ∃ v : Value, r = some v ∧ (v = .null ∨ ∃ a, v = .ref a)
  | some (.array _) => ∃ v : Value, r = some v ∧ (v = .null ∨ ∃ a, v = .ref a)
  | some t => ∃ v : Int32, r = some (.int v) ∧ narrow t (.int v) = .int v
/-- THE JUDGEMENT: method M at pc, with locals lv, stack st, picture h, d frames deep at most: if o tells an answer and a picture, the machine comes there -/
def sv_V {α : Type} (E : sv_E) (M : sv_M) (d : Nat) (φ : α → Option Value × sv_H) (pc : Nat) (lv : List (Nat × Value)) (st : List Value) (h : sv_H) (o : Option α) : Prop :=
  ∀ (a : α), o = some a → (sv_nx h ≤ sv_nx (φ a).2 ∧ sv_sl h ≤ sv_sl (φ a).2 ∧ sv_rt M.2.2.2 (φ a).1) ∧
    ∀ (p : Program) (l : Launch) (e : Env) (R : Room) (s : State) (m : MethodId) (args : Array Value) (below : List Frame) (meth : Method) (c : Code) (H : Heap) (locs : List Loc) (cells slots : Nat) (Z : State → Prop) (ls : Array Slot) (c0 s0 : Nat),
      sv_Fx M p s m args meth c → sv_K E s → sv_P E s h H → va_S (fun q => E.1 ≤ q) s.heap H locs → E.1 ≤ s.heap.size → sv_Rm R d c0 s0 (φ a).2 → cells + c0 = sv_nx h → slots + s0 = sv_sl h → lv_has ls M.2.2.1 lv →
      sv_End E M (φ a).1 (φ a).2 p l e R s m args below meth c c0 s0 Z → W p l e R s m args below meth c H locs cells slots Z (F0 m pc ls st)
section SV1
variable {α : Type} {E : sv_E} {M : sv_M} {d pc : Nat} {φ : α → Option Value × sv_H} {lv : List (Nat × Value)} {st : List Value} {h : sv_H} {o : Option α}
theorem sv_none : sv_V E M d φ pc lv st h none := fun _ ho => by cases ho
/-- a step that reads locals and stack alone -/
theorem sv_step {pc' : Nat} {lv' : List (Nat × Value)} {st' : List Value}
    (f : ∀ {p : Program} {l : Launch} {e : Env} {R : Room} {s : State} {m : MethodId} {args : Array Value} {below : List Frame} {meth : Method} {c : Code} {H : Heap} {locs : List Loc} {cells slots : Nat} {Z : State → Prop} {ls : Array Slot}, p.tables.exec = Jvm.exec → c.code = M.2.1 → s.vm.findClass M.1.cls = some m.cls → (∀ w ∈ sv_T, w.before args s = true) → lv_has ls M.2.2.1 lv →
      (∀ ls' : Array Slot, lv_has ls' M.2.2.1 lv' → W p l e R s m args below meth c H locs cells slots Z (F0 m pc' ls' st')) → W p l e R s m args below meth c H locs cells slots Z (F0 m pc ls st))
    (k : sv_V E M d φ pc' lv' st' h o) : sv_V E M d φ pc lv st h o := by
  intro a ho
  obtain ⟨hm, k⟩ := k a ho
  refine ⟨hm, ?_⟩
  intro p l e R s m args below meth c H locs cells slots Z ls c0 s0 Fx hK hP hS hB hR hc hs hl hE
  exact f Fx.1 Fx.2.1 Fx.2.2.2.1 Fx.2.2.2.2.1 hl (fun ls' hl' => k p l e R s m args below meth c H locs cells slots Z ls' c0 s0 Fx hK hP hS hB hR hc hs hl' hE)
theorem sv_loc {lv' : List (Nat × Value)} (ks : List Nat) (hl : lv_pick lv ks = lv') (k : sv_V E M d φ pc lv' st h o) : sv_V E M d φ pc lv st h o := sv_step (fun _ _ _ _ hl1 kk => kk _ (lv_sub hl1 ks hl)) k
theorem sv_iconst {n : Int} {v : Int32} (hd : decode M.2.1 pc = .ok (.iconst n, 1)) (hv : Int32.ofInt n = v) (k : sv_V E M d φ (pc + 1) lv (.int v :: st) h o) : sv_V E M d φ pc lv st h o := sv_step (fun hx hb _ _ hl kk => lv_iconst hx hb hd hv (kk _ hl)) k
theorem sv_lconst {n : Fin 2} {v : Int64} (hd : decode M.2.1 pc = .ok (.lconst n, 1)) (hv : Int64.ofNat (n : Nat) = v) (k : sv_V E M d φ (pc + 1) lv (.long v :: st) h o) : sv_V E M d φ pc lv st h o := sv_step (fun hx hb _ _ hl kk => lv_lconst hx hb hd hv (kk _ hl)) k
theorem sv_bipush {n : Int} {v : Int32} (hd : decode M.2.1 pc = .ok (.bipush n, 2)) (hv : (Int8.ofInt n).toInt32 = v) (k : sv_V E M d φ (pc + 2) lv (.int v :: st) h o) : sv_V E M d φ pc lv st h o := sv_step (fun hx hb _ _ hl kk => lv_bipush hx hb hd hv (kk _ hl)) k
theorem sv_sipush {n : Int} {v : Int32} (hd : decode M.2.1 pc = .ok (.sipush n, 3)) (hv : (Int16.ofInt n).toInt32 = v) (k : sv_V E M d φ (pc + 3) lv (.int v :: st) h o) : sv_V E M d φ pc lv st h o := sv_step (fun hx hb _ _ hl kk => lv_sipush hx hb hd hv (kk _ hl)) k
theorem sv_iload_n {q : Fin 4} {i : Nat} {x : Int32} (n : Nat) (hd : decode M.2.1 pc = .ok (.iload_n q, 1)) (hi : (q : Nat) = i) (hn : lv[n]? = some (i, .int x)) (k : sv_V E M d φ (pc + 1) lv (.int x :: st) h o) : sv_V E M d φ pc lv st h o := sv_step (fun hx hb _ _ hl kk => lv_iload_n hx hb hd hi (lv_at hl n hn) (kk _ hl)) k
theorem sv_iload {i : Nat} {x : Int32} (n : Nat) (hd : decode M.2.1 pc = .ok (.iload i, 2)) (hn : lv[n]? = some (i, .int x)) (k : sv_V E M d φ (pc + 2) lv (.int x :: st) h o) : sv_V E M d φ pc lv st h o := sv_step (fun hx hb _ _ hl kk => lv_iload hx hb hd (lv_at hl n hn) (kk _ hl)) k
theorem sv_lload_n {q : Fin 4} {i : Nat} {x : Int64} (n : Nat) (hd : decode M.2.1 pc = .ok (.lload_n q, 1)) (hi : (q : Nat) = i) (hn : lv[n]? = some (i, .long x)) (k : sv_V E M d φ (pc + 1) lv (.long x :: st) h o) : sv_V E M d φ pc lv st h o := sv_step (fun hx hb _ _ hl kk => lv_lload_n hx hb hd hi (lv_at hl n hn) (kk _ hl)) k
theorem sv_lload {i : Nat} {x : Int64} (n : Nat) (hd : decode M.2.1 pc = .ok (.lload i, 2)) (hn : lv[n]? = some (i, .long x)) (k : sv_V E M d φ (pc + 2) lv (.long x :: st) h o) : sv_V E M d φ pc lv st h o := sv_step (fun hx hb _ _ hl kk => lv_lload hx hb hd (lv_at hl n hn) (kk _ hl)) k
theorem sv_aload_n {q : Fin 4} {i x : Nat} (n : Nat) (hd : decode M.2.1 pc = .ok (.aload_n q, 1)) (hi : (q : Nat) = i) (hn : lv[n]? = some (i, sv_r E x)) (k : sv_V E M d φ (pc + 1) lv (sv_r E x :: st) h o) : sv_V E M d φ pc lv st h o := sv_step (fun hx hb _ _ hl kk => lv_aload_n hx hb hd hi (lv_at hl n hn) (kk _ hl)) k
theorem sv_aload {i x : Nat} (n : Nat) (hd : decode M.2.1 pc = .ok (.aload i, 2)) (hn : lv[n]? = some (i, sv_r E x)) (k : sv_V E M d φ (pc + 2) lv (sv_r E x :: st) h o) : sv_V E M d φ pc lv st h o := sv_step (fun hx hb _ _ hl kk => lv_aload hx hb hd (lv_at hl n hn) (kk _ hl)) k
theorem sv_istore_n {q : Fin 4} {i : Nat} {x : Int32} {lv' : List (Nat × Value)} (hd : decode M.2.1 pc = .ok (.istore_n q, 1)) (hi : (q : Nat) = i) (hn : i < M.2.2.1) (hl : (i, Value.int x) :: lv.filter (fun q => !(q.1 == i) && !(q.1 + 1 == i && q.2.category == 2)) = lv') (k : sv_V E M d φ (pc + 1) lv' st h o) : sv_V E M d φ pc lv (.int x :: st) h o := sv_step (fun hx hb _ _ hl1 kk => lv_istore_n hx hb hd hi hl1 hn hl (fun ls' hl' => kk ls' hl')) k
theorem sv_istore {i : Nat} {x : Int32} {lv' : List (Nat × Value)} (hd : decode M.2.1 pc = .ok (.istore i, 2)) (hn : i < M.2.2.1) (hl : (i, Value.int x) :: lv.filter (fun q => !(q.1 == i) && !(q.1 + 1 == i && q.2.category == 2)) = lv') (k : sv_V E M d φ (pc + 2) lv' st h o) : sv_V E M d φ pc lv (.int x :: st) h o := sv_step (fun hx hb _ _ hl1 kk => lv_istore hx hb hd hl1 hn hl (fun ls' hl' => kk ls' hl')) k
theorem sv_lstore_n {q : Fin 4} {i : Nat} {x : Int64} {lv' : List (Nat × Value)} (hd : decode M.2.1 pc = .ok (.lstore_n q, 1)) (hi : (q : Nat) = i) (hn : i + 1 < M.2.2.1) (hl : (i, Value.long x) :: lv.filter (fun q => !(q.1 == i) && (!(q.1 == i + 1) && !(q.1 + 1 == i && q.2.category == 2))) = lv') (k : sv_V E M d φ (pc + 1) lv' st h o) : sv_V E M d φ pc lv (.long x :: st) h o := sv_step (fun hx hb _ _ hl1 kk => lv_lstore_n hx hb hd hi hl1 hn hl (fun ls' hl' => kk ls' hl')) k
theorem sv_lstore {i : Nat} {x : Int64} {lv' : List (Nat × Value)} (hd : decode M.2.1 pc = .ok (.lstore i, 2)) (hn : i + 1 < M.2.2.1) (hl : (i, Value.long x) :: lv.filter (fun q => !(q.1 == i) && (!(q.1 == i + 1) && !(q.1 + 1 == i && q.2.category == 2))) = lv') (k : sv_V E M d φ (pc + 2) lv' st h o) : sv_V E M d φ pc lv (.long x :: st) h o := sv_step (fun hx hb _ _ hl1 kk => lv_lstore hx hb hd hl1 hn hl (fun ls' hl' => kk ls' hl')) k
theorem sv_astore_n {q : Fin 4} {i x : Nat} {lv' : List (Nat × Value)} (hd : decode M.2.1 pc = .ok (.astore_n q, 1)) (hi : (q : Nat) = i) (hn : i < M.2.2.1) (hl : (i, sv_r E x) :: lv.filter (fun q => !(q.1 == i) && !(q.1 + 1 == i && q.2.category == 2)) = lv') (k : sv_V E M d φ (pc + 1) lv' st h o) : sv_V E M d φ pc lv (sv_r E x :: st) h o := sv_step (fun hx hb _ _ hl1 kk => lv_astore_n hx hb hd hi hl1 hn hl (fun ls' hl' => kk ls' hl')) k
theorem sv_astore {i x : Nat} {lv' : List (Nat × Value)} (hd : decode M.2.1 pc = .ok (.astore i, 2)) (hn : i < M.2.2.1) (hl : (i, sv_r E x) :: lv.filter (fun q => !(q.1 == i) && !(q.1 + 1 == i && q.2.category == 2)) = lv') (k : sv_V E M d φ (pc + 2) lv' st h o) : sv_V E M d φ pc lv (sv_r E x :: st) h o := sv_step (fun hx hb _ _ hl1 kk => lv_astore hx hb hd hl1 hn hl (fun ls' hl' => kk ls' hl')) k
theorem sv_iinc {i n : Nat} {z : Int} {x v : Int32} {lv' : List (Nat × Value)} (hd : decode M.2.1 pc = .ok (.iinc i z, 3)) (hk : lv[n]? = some (i, .int x)) (hv : x + Int32.ofInt z = v) (hn : i < M.2.2.1) (hl : (i, Value.int v) :: lv.filter (fun q => !(q.1 == i) && !(q.1 + 1 == i && q.2.category == 2)) = lv') (k : sv_V E M d φ (pc + 3) lv' st h o) : sv_V E M d φ pc lv st h o := sv_step (fun hx hb _ _ hl1 kk => lv_iinc hx hb hd hl1 hk hv hn hl (fun ls' hl' => kk ls' hl')) k
theorem sv_goto {off : Int} {tgt : Nat} (hd : decode M.2.1 pc = .ok (.goto off, 3)) (ht : (pc : Int) + off = (tgt : Int)) (k : sv_V E M d φ tgt lv st h o) : sv_V E M d φ pc lv st h o := sv_step (fun hx hb _ _ hl kk => lv_goto hx hb hd ht (kk _ hl)) k
theorem sv_ldc {index : Nat} {v : Int32} (hc : Jvm.Cond.constant M.1.cls index v ∈ sv_T) (hd : decode M.2.1 pc = .ok (.ldc index, 2)) (k : sv_V E M d φ (pc + 2) lv (.int v :: st) h o) : sv_V E M d φ pc lv st h o := sv_step (fun hx hb ho ht hl kk => lv_ldc hx hb ho (ht _ hc) hd (kk _ hl)) k
theorem sv_ldcw {index : Nat} {v : Int32} (hc : Jvm.Cond.constant M.1.cls index v ∈ sv_T) (hd : decode M.2.1 pc = .ok (.ldc_w index, 3)) (k : sv_V E M d φ (pc + 3) lv (.int v :: st) h o) : sv_V E M d φ pc lv st h o := sv_step (fun hx hb ho ht hl kk => lv_ldcw hx hb ho (ht _ hc) hd (kk _ hl)) k
theorem sv_ldc2 {index : Nat} {v : Int64} (hc : Jvm.Cond.constantLong M.1.cls index v ∈ sv_T) (hd : decode M.2.1 pc = .ok (.ldc2_w index, 3)) (k : sv_V E M d φ (pc + 3) lv (.long v :: st) h o) : sv_V E M d φ pc lv st h o := sv_step (fun hx hb ho ht hl kk => lv_ldc2 hx hb ho (ht _ hc) hd (kk _ hl)) k
end SV1
section SV2
variable {α : Type} {E : sv_E} {M : sv_M} {d pc : Nat} {φ : α → Option Value × sv_H} {lv : List (Nat × Value)} {st : List Value} {h : sv_H} {o o1 o2 : Option α}
theorem sv_iadd {x y : Int32} (hd : decode M.2.1 pc = .ok (.iadd, 1)) (k : sv_V E M d φ (pc + 1) lv (.int (x + y) :: st) h o) : sv_V E M d φ pc lv (.int y :: .int x :: st) h o := sv_step (fun hx hb _ _ hl kk => lv_iadd hx hb hd (kk _ hl)) k
theorem sv_isub {x y : Int32} (hd : decode M.2.1 pc = .ok (.isub, 1)) (k : sv_V E M d φ (pc + 1) lv (.int (x - y) :: st) h o) : sv_V E M d φ pc lv (.int y :: .int x :: st) h o := sv_step (fun hx hb _ _ hl kk => lv_isub hx hb hd (kk _ hl)) k
theorem sv_imul {x y : Int32} (hd : decode M.2.1 pc = .ok (.imul, 1)) (k : sv_V E M d φ (pc + 1) lv (.int (x * y) :: st) h o) : sv_V E M d φ pc lv (.int y :: .int x :: st) h o := sv_step (fun hx hb _ _ hl kk => lv_imul hx hb hd (kk _ hl)) k
theorem sv_iand {x y : Int32} (hd : decode M.2.1 pc = .ok (.iand, 1)) (k : sv_V E M d φ (pc + 1) lv (.int (x &&& y) :: st) h o) : sv_V E M d φ pc lv (.int y :: .int x :: st) h o := sv_step (fun hx hb _ _ hl kk => lv_iand hx hb hd (kk _ hl)) k
theorem sv_ior {x y : Int32} (hd : decode M.2.1 pc = .ok (.ior, 1)) (k : sv_V E M d φ (pc + 1) lv (.int (x ||| y) :: st) h o) : sv_V E M d φ pc lv (.int y :: .int x :: st) h o := sv_step (fun hx hb _ _ hl kk => lv_ior hx hb hd (kk _ hl)) k
theorem sv_ixor {x y : Int32} (hd : decode M.2.1 pc = .ok (.ixor, 1)) (k : sv_V E M d φ (pc + 1) lv (.int (x ^^^ y) :: st) h o) : sv_V E M d φ pc lv (.int y :: .int x :: st) h o := sv_step (fun hx hb _ _ hl kk => lv_ixor hx hb hd (kk _ hl)) k
theorem sv_ishl {x y : Int32} (hd : decode M.2.1 pc = .ok (.ishl, 1)) (k : sv_V E M d φ (pc + 1) lv (.int (x <<< (y &&& 31)) :: st) h o) : sv_V E M d φ pc lv (.int y :: .int x :: st) h o := sv_step (fun hx hb _ _ hl kk => lv_ishl hx hb hd (kk _ hl)) k
theorem sv_ishr {x y : Int32} (hd : decode M.2.1 pc = .ok (.ishr, 1)) (k : sv_V E M d φ (pc + 1) lv (.int (x >>> (y &&& 31)) :: st) h o) : sv_V E M d φ pc lv (.int y :: .int x :: st) h o := sv_step (fun hx hb _ _ hl kk => lv_ishr hx hb hd (kk _ hl)) k
theorem sv_ladd {x y : Int64} (hd : decode M.2.1 pc = .ok (.ladd, 1)) (k : sv_V E M d φ (pc + 1) lv (.long (x + y) :: st) h o) : sv_V E M d φ pc lv (.long y :: .long x :: st) h o := sv_step (fun hx hb _ _ hl kk => lv_ladd hx hb hd (kk _ hl)) k
theorem sv_lsub {x y : Int64} (hd : decode M.2.1 pc = .ok (.lsub, 1)) (k : sv_V E M d φ (pc + 1) lv (.long (x - y) :: st) h o) : sv_V E M d φ pc lv (.long y :: .long x :: st) h o := sv_step (fun hx hb _ _ hl kk => lv_lsub hx hb hd (kk _ hl)) k
theorem sv_lmul {x y : Int64} (hd : decode M.2.1 pc = .ok (.lmul, 1)) (k : sv_V E M d φ (pc + 1) lv (.long (x * y) :: st) h o) : sv_V E M d φ pc lv (.long y :: .long x :: st) h o := sv_step (fun hx hb _ _ hl kk => lv_lmul hx hb hd (kk _ hl)) k
theorem sv_land {x y : Int64} (hd : decode M.2.1 pc = .ok (.land, 1)) (k : sv_V E M d φ (pc + 1) lv (.long (x &&& y) :: st) h o) : sv_V E M d φ pc lv (.long y :: .long x :: st) h o := sv_step (fun hx hb _ _ hl kk => lv_land hx hb hd (kk _ hl)) k
theorem sv_lor {x y : Int64} (hd : decode M.2.1 pc = .ok (.lor, 1)) (k : sv_V E M d φ (pc + 1) lv (.long (x ||| y) :: st) h o) : sv_V E M d φ pc lv (.long y :: .long x :: st) h o := sv_step (fun hx hb _ _ hl kk => lv_lor hx hb hd (kk _ hl)) k
theorem sv_lxor {x y : Int64} (hd : decode M.2.1 pc = .ok (.lxor, 1)) (k : sv_V E M d φ (pc + 1) lv (.long (x ^^^ y) :: st) h o) : sv_V E M d φ pc lv (.long y :: .long x :: st) h o := sv_step (fun hx hb _ _ hl kk => lv_lxor hx hb hd (kk _ hl)) k
theorem sv_idiv {x y : Int32} (hd : decode M.2.1 pc = .ok (.idiv, 1)) (k : sv_V E M d φ (pc + 1) lv (.int (x / y) :: st) h o) : sv_V E M d φ pc lv (.int y :: .int x :: st) h (if y = 0 then none else o) := by
  by_cases hy : y = 0
  · rw [if_pos hy]; exact sv_none
  · rw [if_neg hy]; exact sv_step (fun hx hb _ _ hl kk => lv_idiv hx hb hd hy (kk _ hl)) k
theorem sv_idivK {x y : Int32} (hd : decode M.2.1 pc = .ok (.idiv, 1)) (hy : ¬ y = 0) (k : sv_V E M d φ (pc + 1) lv (.int (x / y) :: st) h o) : sv_V E M d φ pc lv (.int y :: .int x :: st) h o := sv_step (fun hx hb _ _ hl kk => lv_idiv hx hb hd hy (kk _ hl)) k
theorem sv_irem {x y : Int32} (hd : decode M.2.1 pc = .ok (.irem, 1)) (k : sv_V E M d φ (pc + 1) lv (.int (x - x / y * y) :: st) h o) : sv_V E M d φ pc lv (.int y :: .int x :: st) h (if y = 0 then none else o) := by
  by_cases hy : y = 0
  · rw [if_pos hy]; exact sv_none
  · rw [if_neg hy]; exact sv_step (fun hx hb _ _ hl kk => lv_irem hx hb hd hy (kk _ hl)) k
theorem sv_iremK {x y : Int32} (hd : decode M.2.1 pc = .ok (.irem, 1)) (hy : ¬ y = 0) (k : sv_V E M d φ (pc + 1) lv (.int (x - x / y * y) :: st) h o) : sv_V E M d φ pc lv (.int y :: .int x :: st) h o := sv_step (fun hx hb _ _ hl kk => lv_irem hx hb hd hy (kk _ hl)) k
theorem sv_ldiv {x y : Int64} (hd : decode M.2.1 pc = .ok (.ldiv, 1)) (k : sv_V E M d φ (pc + 1) lv (.long (x / y) :: st) h o) : sv_V E M d φ pc lv (.long y :: .long x :: st) h (if y = 0 then none else o) := by
  by_cases hy : y = 0
  · rw [if_pos hy]; exact sv_none
  · rw [if_neg hy]; exact sv_step (fun hx hb _ _ hl kk => lv_ldiv hx hb hd hy (kk _ hl)) k
theorem sv_ldivK {x y : Int64} (hd : decode M.2.1 pc = .ok (.ldiv, 1)) (hy : ¬ y = 0) (k : sv_V E M d φ (pc + 1) lv (.long (x / y) :: st) h o) : sv_V E M d φ pc lv (.long y :: .long x :: st) h o := sv_step (fun hx hb _ _ hl kk => lv_ldiv hx hb hd hy (kk _ hl)) k
theorem sv_lrem {x y : Int64} (hd : decode M.2.1 pc = .ok (.lrem, 1)) (k : sv_V E M d φ (pc + 1) lv (.long (x - x / y * y) :: st) h o) : sv_V E M d φ pc lv (.long y :: .long x :: st) h (if y = 0 then none else o) := by
  by_cases hy : y = 0
  · rw [if_pos hy]; exact sv_none
  · rw [if_neg hy]; exact sv_step (fun hx hb _ _ hl kk => lv_lrem hx hb hd hy (kk _ hl)) k
theorem sv_lremK {x y : Int64} (hd : decode M.2.1 pc = .ok (.lrem, 1)) (hy : ¬ y = 0) (k : sv_V E M d φ (pc + 1) lv (.long (x - x / y * y) :: st) h o) : sv_V E M d φ pc lv (.long y :: .long x :: st) h o := sv_step (fun hx hb _ _ hl kk => lv_lrem hx hb hd hy (kk _ hl)) k
theorem sv_ineg {x : Int32} (hd : decode M.2.1 pc = .ok (.ineg, 1)) (k : sv_V E M d φ (pc + 1) lv (.int (-x) :: st) h o) : sv_V E M d φ pc lv (.int x :: st) h o := sv_step (fun hx hb _ _ hl kk => lv_ineg hx hb hd (kk _ hl)) k
theorem sv_i2l {x : Int32} (hd : decode M.2.1 pc = .ok (.i2l, 1)) (k : sv_V E M d φ (pc + 1) lv (.long (x.toInt64) :: st) h o) : sv_V E M d φ pc lv (.int x :: st) h o := sv_step (fun hx hb _ _ hl kk => lv_i2l hx hb hd rfl (kk _ hl)) k
theorem sv_l2i {x : Int64} (hd : decode M.2.1 pc = .ok (.l2i, 1)) (k : sv_V E M d φ (pc + 1) lv (.int (x.toInt32) :: st) h o) : sv_V E M d φ pc lv (.long x :: st) h o := sv_step (fun hx hb _ _ hl kk => lv_l2i hx hb hd rfl (kk _ hl)) k
theorem sv_i2b {x : Int32} (hd : decode M.2.1 pc = .ok (.i2b, 1)) (k : sv_V E M d φ (pc + 1) lv (.int (x.toInt8.toInt32) :: st) h o) : sv_V E M d φ pc lv (.int x :: st) h o := sv_step (fun hx hb _ _ hl kk => lv_i2b hx hb hd rfl (kk _ hl)) k
theorem sv_i2s {x : Int32} (hd : decode M.2.1 pc = .ok (.i2s, 1)) (k : sv_V E M d φ (pc + 1) lv (.int (x.toInt16.toInt32) :: st) h o) : sv_V E M d φ pc lv (.int x :: st) h o := sv_step (fun hx hb _ _ hl kk => lv_i2s hx hb hd rfl (kk _ hl)) k
theorem sv_i2c {x : Int32} (hd : decode M.2.1 pc = .ok (.i2c, 1)) (k : sv_V E M d φ (pc + 1) lv (.int ((x.toUInt32 % 65536).toInt32) :: st) h o) : sv_V E M d φ pc lv (.int x :: st) h o := sv_step (fun hx hb _ _ hl kk => lv_i2c hx hb hd rfl (kk _ hl)) k
theorem sv_iushr {x y : Int32} (hd : decode M.2.1 pc = .ok (.iushr, 1)) (k : sv_V E M d φ (pc + 1) lv (.int ((x.toUInt32 >>> (y.toUInt32 &&& Int32.toUInt32 31)).toInt32) :: st) h o) : sv_V E M d φ pc lv (.int y :: .int x :: st) h o := sv_step (fun hx hb _ _ hl kk => lv_iushr hx hb hd rfl (kk _ hl)) k
theorem sv_lshl {x : Int64} {y : Int32} (hd : decode M.2.1 pc = .ok (.lshl, 1)) (k : sv_V E M d φ (pc + 1) lv (.long (x <<< (y.toInt64 &&& 63)) :: st) h o) : sv_V E M d φ pc lv (.int y :: .long x :: st) h o := sv_step (fun hx hb _ _ hl kk => lv_lshl hx hb hd rfl (kk _ hl)) k
theorem sv_lshr {x : Int64} {y : Int32} (hd : decode M.2.1 pc = .ok (.lshr, 1)) (k : sv_V E M d φ (pc + 1) lv (.long (x >>> (y.toInt64 &&& 63)) :: st) h o) : sv_V E M d φ pc lv (.int y :: .long x :: st) h o := sv_step (fun hx hb _ _ hl kk => lv_lshr hx hb hd rfl (kk _ hl)) k
theorem sv_lcmp {x y : Int64} (hd : decode M.2.1 pc = .ok (.lcmp, 1)) (k : sv_V E M d φ (pc + 1) lv (.int (lg_cmp x y) :: st) h o) : sv_V E M d φ pc lv (.long y :: .long x :: st) h o := sv_step (fun hx hb _ _ hl kk => W.lcmp hx hb hd (kk _ hl)) k
theorem sv_dup {v : Value} (hd : decode M.2.1 pc = .ok (.dup, 1)) (hv : v.category = 1) (k : sv_V E M d φ (pc + 1) lv (v :: v :: st) h o) : sv_V E M d φ pc lv (v :: st) h o := sv_step (fun hx hb _ _ hl kk => lv_dup hx hb hd hv (kk _ hl)) k
theorem sv_pop {v : Value} (hd : decode M.2.1 pc = .ok (.pop, 1)) (hv : v.category = 1) (k : sv_V E M d φ (pc + 1) lv st h o) : sv_V E M d φ pc lv (v :: st) h o := sv_step (fun hx hb _ _ hl kk => lv_pop hx hb hd hv (kk _ hl)) k
theorem sv_dup_x1 {v w : Value} (hd : decode M.2.1 pc = .ok (.dup_x1, 1)) (hv : v.category = 1) (hw : w.category = 1) (k : sv_V E M d φ (pc + 1) lv (v :: w :: v :: st) h o) : sv_V E M d φ pc lv (v :: w :: st) h o := sv_step (fun hx hb _ _ hl kk => lv_dup_x1 hx hb hd hv hw (kk _ hl)) k
theorem sv_dup2 {v w : Value} (hd : decode M.2.1 pc = .ok (.dup2, 1)) (hv : v.category = 1) (hw : w.category = 1) (k : sv_V E M d φ (pc + 1) lv (v :: w :: v :: w :: st) h o) : sv_V E M d φ pc lv (v :: w :: st) h o := sv_step (fun hx hb _ _ hl kk => lv_dup2_11 hx hb hd hv hw (kk _ hl)) k
theorem sv_br {c : Prop} [Decidable c] {t : Nat} {st0 : List Value} {n : Nat}
    (f : ∀ {p : Program} {l : Launch} {e : Env} {R : Room} {s : State} {m : MethodId} {args : Array Value} {below : List Frame} {meth : Method} {cd : Code} {H : Heap} {locs : List Loc} {cells slots : Nat} {Z : State → Prop} {ls : Array Slot}, p.tables.exec = Jvm.exec → cd.code = M.2.1 →
      (c → W p l e R s m args below meth cd H locs cells slots Z (F0 m t ls st)) → (¬ c → W p l e R s m args below meth cd H locs cells slots Z (F0 m (pc + n) ls st)) → W p l e R s m args below meth cd H locs cells slots Z (F0 m pc ls st0))
    (k1 : sv_V E M d φ t lv st h o1) (k2 : sv_V E M d φ (pc + n) lv st h o2) : sv_V E M d φ pc lv st0 h (if c then o1 else o2) := by
  by_cases hc : c
  · rw [if_pos hc]; exact sv_step (fun hx hb _ _ hl kk => f hx hb (fun _ => kk _ hl) (fun z => absurd hc z)) k1
  · rw [if_neg hc]; exact sv_step (fun hx hb _ _ hl kk => f hx hb (fun z => absurd z hc) (fun _ => kk _ hl)) k2
theorem sv_if_eq {x : Int32} {off : Int} {tgt : Nat} (hd : decode M.2.1 pc = .ok (.ifCond .eq off, 3)) (ht : (pc : Int) + off = (tgt : Int)) (k1 : sv_V E M d φ tgt lv st h o1) (k2 : sv_V E M d φ (pc + 3) lv st h o2) : sv_V E M d φ pc lv (.int x :: st) h (if x = 0 then o1 else o2) := sv_br (fun hx hb a b => lv_if_eq hx hb hd ht a b) k1 k2
theorem sv_brN {c : Prop} [Decidable c] {t : Nat} {st0 : List Value} {n : Nat}
    (f : ∀ {p : Program} {l : Launch} {e : Env} {R : Room} {s : State} {m : MethodId} {args : Array Value} {below : List Frame} {meth : Method} {cd : Code} {H : Heap} {locs : List Loc} {cells slots : Nat} {Z : State → Prop} {ls : Array Slot}, p.tables.exec = Jvm.exec → cd.code = M.2.1 →
      (¬ c → W p l e R s m args below meth cd H locs cells slots Z (F0 m t ls st)) → (c → W p l e R s m args below meth cd H locs cells slots Z (F0 m (pc + n) ls st)) → W p l e R s m args below meth cd H locs cells slots Z (F0 m pc ls st0))
    (k1 : sv_V E M d φ t lv st h o1) (k2 : sv_V E M d φ (pc + n) lv st h o2) : sv_V E M d φ pc lv st0 h (if c then o2 else o1) := by
  by_cases hc : c
  · rw [if_pos hc]; exact sv_step (fun hx hb _ _ hl kk => f hx hb (fun z => absurd hc z) (fun _ => kk _ hl)) k2
  · rw [if_neg hc]; exact sv_step (fun hx hb _ _ hl kk => f hx hb (fun _ => kk _ hl) (fun z => absurd z hc)) k1
theorem sv_if_ne {x : Int32} {off : Int} {tgt : Nat} (hd : decode M.2.1 pc = .ok (.ifCond .ne off, 3)) (ht : (pc : Int) + off = (tgt : Int)) (k1 : sv_V E M d φ tgt lv st h o1) (k2 : sv_V E M d φ (pc + 3) lv st h o2) : sv_V E M d φ pc lv (.int x :: st) h (if x = 0 then o2 else o1) := sv_brN (fun hx hb a b => lv_if_ne hx hb hd ht a b) k1 k2
theorem sv_if_lt {x : Int32} {off : Int} {tgt : Nat} (hd : decode M.2.1 pc = .ok (.ifCond .lt off, 3)) (ht : (pc : Int) + off = (tgt : Int)) (k1 : sv_V E M d φ tgt lv st h o1) (k2 : sv_V E M d φ (pc + 3) lv st h o2) : sv_V E M d φ pc lv (.int x :: st) h (if x < 0 then o1 else o2) := sv_br (fun hx hb a b => lv_if_lt hx hb hd ht a b) k1 k2
theorem sv_if_ge {x : Int32} {off : Int} {tgt : Nat} (hd : decode M.2.1 pc = .ok (.ifCond .ge off, 3)) (ht : (pc : Int) + off = (tgt : Int)) (k1 : sv_V E M d φ tgt lv st h o1) (k2 : sv_V E M d φ (pc + 3) lv st h o2) : sv_V E M d φ pc lv (.int x :: st) h (if 0 ≤ x then o1 else o2) := sv_br (fun hx hb a b => lv_if_ge hx hb hd ht a b) k1 k2
theorem sv_if_gt {x : Int32} {off : Int} {tgt : Nat} (hd : decode M.2.1 pc = .ok (.ifCond .gt off, 3)) (ht : (pc : Int) + off = (tgt : Int)) (k1 : sv_V E M d φ tgt lv st h o1) (k2 : sv_V E M d φ (pc + 3) lv st h o2) : sv_V E M d φ pc lv (.int x :: st) h (if 0 < x then o1 else o2) := sv_br (fun hx hb a b => lv_if_gt hx hb hd ht a b) k1 k2
theorem sv_if_le {x : Int32} {off : Int} {tgt : Nat} (hd : decode M.2.1 pc = .ok (.ifCond .le off, 3)) (ht : (pc : Int) + off = (tgt : Int)) (k1 : sv_V E M d φ tgt lv st h o1) (k2 : sv_V E M d φ (pc + 3) lv st h o2) : sv_V E M d φ pc lv (.int x :: st) h (if x ≤ 0 then o1 else o2) := sv_br (fun hx hb a b => lv_if_le hx hb hd ht a b) k1 k2
theorem sv_icmp_eq {x y : Int32} {off : Int} {tgt : Nat} (hd : decode M.2.1 pc = .ok (.if_icmp .eq off, 3)) (ht : (pc : Int) + off = (tgt : Int)) (k1 : sv_V E M d φ tgt lv st h o1) (k2 : sv_V E M d φ (pc + 3) lv st h o2) : sv_V E M d φ pc lv (.int y :: .int x :: st) h (if x = y then o1 else o2) := sv_br (fun hx hb a b => lv_icmp_eq hx hb hd ht a b) k1 k2
theorem sv_icmp_ne {x y : Int32} {off : Int} {tgt : Nat} (hd : decode M.2.1 pc = .ok (.if_icmp .ne off, 3)) (ht : (pc : Int) + off = (tgt : Int)) (k1 : sv_V E M d φ tgt lv st h o1) (k2 : sv_V E M d φ (pc + 3) lv st h o2) : sv_V E M d φ pc lv (.int y :: .int x :: st) h (if x = y then o2 else o1) := sv_brN (fun hx hb a b => lv_icmp_ne hx hb hd ht a b) k1 k2
theorem sv_icmp_lt {x y : Int32} {off : Int} {tgt : Nat} (hd : decode M.2.1 pc = .ok (.if_icmp .lt off, 3)) (ht : (pc : Int) + off = (tgt : Int)) (k1 : sv_V E M d φ tgt lv st h o1) (k2 : sv_V E M d φ (pc + 3) lv st h o2) : sv_V E M d φ pc lv (.int y :: .int x :: st) h (if x < y then o1 else o2) := sv_br (fun hx hb a b => lv_icmp_lt hx hb hd ht a b) k1 k2
theorem sv_icmp_ge {x y : Int32} {off : Int} {tgt : Nat} (hd : decode M.2.1 pc = .ok (.if_icmp .ge off, 3)) (ht : (pc : Int) + off = (tgt : Int)) (k1 : sv_V E M d φ tgt lv st h o1) (k2 : sv_V E M d φ (pc + 3) lv st h o2) : sv_V E M d φ pc lv (.int y :: .int x :: st) h (if y ≤ x then o1 else o2) := sv_br (fun hx hb a b => lv_icmp_ge hx hb hd ht a b) k1 k2
theorem sv_icmp_gt {x y : Int32} {off : Int} {tgt : Nat} (hd : decode M.2.1 pc = .ok (.if_icmp .gt off, 3)) (ht : (pc : Int) + off = (tgt : Int)) (k1 : sv_V E M d φ tgt lv st h o1) (k2 : sv_V E M d φ (pc + 3) lv st h o2) : sv_V E M d φ pc lv (.int y :: .int x :: st) h (if y < x then o1 else o2) := sv_br (fun hx hb a b => lv_icmp_gt hx hb hd ht a b) k1 k2
theorem sv_icmp_le {x y : Int32} {off : Int} {tgt : Nat} (hd : decode M.2.1 pc = .ok (.if_icmp .le off, 3)) (ht : (pc : Int) + off = (tgt : Int)) (k1 : sv_V E M d φ tgt lv st h o1) (k2 : sv_V E M d φ (pc + 3) lv st h o2) : sv_V E M d φ pc lv (.int y :: .int x :: st) h (if x ≤ y then o1 else o2) := sv_br (fun hx hb a b => lv_icmp_le hx hb hd ht a b) k1 k2
end SV2
