/-! arrays of arrays: multianewarray with two counts -/
def sm_o (cA : ClassId) (N b i : Nat) : Cell := arrV cA N (fun j => if j < i then .ref (b + 1 + j) else .null)
def sm_f (T : State) (cA cI : ClassId) (N K : Nat) (v : Value) : Nat → State
  | 0 => T.pushCell (sm_o cA N T.heap.size 0)
  | i + 1 => ((sm_f T cA cI N K v i).pushCell (arrV cI K (fun _ => v))).setCell T.heap.size (sm_o cA N T.heap.size (i + 1))
theorem sm_oset (cA : ClassId) (N b i : Nat) : (sm_o cA N b i).setSlot i (.ref (b + 1 + i)) = sm_o cA N b (i + 1) := by
  unfold sm_o
  rw [arrV_store]
  congr 1
  funext j
  simp only [updV]
  by_cases e : j = i
  · subst e; simp
  · rw [if_neg e]
    by_cases q : j < i
    · rw [if_pos q, if_pos (by omega)]
    · rw [if_neg q, if_neg (by omega)]
theorem sm_facts (T : State) (cA cI : ClassId) (N K : Nat) (v : Value) : ∀ i, (sm_f T cA cI N K v i).heap.size = T.heap.size + 1 + i ∧ (sm_f T cA cI N K v i).heap[T.heap.size]? = some (sm_o cA N T.heap.size i) ∧ (sm_f T cA cI N K v i).vm = T.vm ∧ (sm_f T cA cI N K v i).slotsUsed = T.slotsUsed + N + i * K ∧ (∀ a : Nat, a < T.heap.size → (sm_f T cA cI N K v i).heap[a]? = T.heap[a]?) ∧ (∀ j : Nat, j < i → (sm_f T cA cI N K v i).heap[T.heap.size + 1 + j]? = some (arrV cI K (fun _ => v)))
  | 0 => ⟨by simp [sm_f], by simp [sm_f], rfl, by simp [sm_f, sm_o, arrV_size], fun a ha => State.heap_pushCell_of_lt _ _ ha, fun j hj => absurd hj (Nat.not_lt_zero _)⟩
  | i + 1 => by
    obtain ⟨a, b, c, d, f, g⟩ := sm_facts T cA cI N K v i
    have hlt : T.heap.size < (sm_f T cA cI N K v i).heap.size := by omega
    have hb' : ((sm_f T cA cI N K v i).pushCell (arrV cI K (fun _ => v))).heap[T.heap.size]? = some (sm_o cA N T.heap.size i) := by rw [State.heap_pushCell_of_lt (h := hlt)]; exact b
    refine ⟨?_, State.heap_setCell_self hb', by simp [sm_f, c], ?_, fun x hx => ?_, fun j hj => ?_⟩
    · simp [sm_f, State.setCell, a]; omega
    · simp [sm_f, d, arrV_size, Nat.succ_mul]; omega
    · show (((sm_f T cA cI N K v i).pushCell (arrV cI K (fun _ => v))).setCell T.heap.size _).heap[x]? = _
      rw [State.heap_setCell_other (Nat.ne_of_gt hx), State.heap_pushCell_of_lt (h := Nat.lt_trans hx hlt)]
      exact f x hx
    · show (((sm_f T cA cI N K v i).pushCell (arrV cI K (fun _ => v))).setCell T.heap.size _).heap[T.heap.size + 1 + j]? = _
      rw [State.heap_setCell_other (show T.heap.size ≠ T.heap.size + 1 + j by omega)]
      rcases Nat.lt_or_ge j i with q | q
      · have hj2 : T.heap.size + 1 + j < (sm_f T cA cI N K v i).heap.size := by omega
        rw [State.heap_pushCell_of_lt (h := hj2)]
        exact g j q
      · have e : j = i := by omega
        subst e
        rw [← a]
        exact State.heap_pushCell_size _ _
theorem sm_top (T : State) (f : JFrame) (cA cI : ClassId) (N K : Nat) (v : Value) : ∀ i, sm_f (T.setTop f) cA cI N K v i = (sm_f T cA cI N K v i).setTop f
  | 0 => rfl
  | i + 1 => by simp only [sm_f, sm_top T f cA cI N K v i, State.heap_setTop, State.pushCell_setTop, State.setCell_setTop]
section SMW
variable {X : CtlPost} {e : Env} {d : Bool} {acts : List Action} {s : State}
theorem sm_new {c comp : ClassId} {k : Class} {ty : FieldType} {len : Nat} {v : Value} (hk : s.vm.classes[c]? = some k) (hkind : k.kind = .array comp ty) (hl : ¬ len > e.platform.arrayLengthLimit) (hh : ¬ len * componentBytes ty > e.platform.maxHeapBytes) (hf : fits ty v = true) (hd : v.isDefault = true) {Q : Addr → Pre} (h1 : s.heap.size < e.platform.maxCells) (h2 : s.slotsUsed + len ≤ e.platform.maxSlots) (hq : Q s.heap.size d acts (s.pushCell (arrV c len (fun _ => v)))) : wp (Jvm.newArray c len v) Q X e d acts s := by
  have hfits : ∀ i w, (Array.replicate len v)[i]? = some w → s.fitsSlot c .none i w = true := by
    intro i w hw
    simp only [Array.getElem?_replicate] at hw
    split at hw
    · cases hw; simp [State.fitsSlot, State.slotType?, hk, hkind, hf]
    · cases hw
  have hda : allocActs (Array.replicate len v) s.heap.size acts = acts := by
    have hall : ((Array.replicate len v).all (·.isDefault)) = true := by
      rw [Array.all_replicate]; split <;> simp [hd]
    unfold allocActs; rw [if_pos hall]
  rw [← arrV_new] at hq
  simp only [Jvm.newArray, Jvm.arrayFits, wp_bind', W.ask, W.ite, hl, if_false, wp_pure', W.theClass, hk, hkind, hh, W.alloc, W.stop, Option.some.injEq, exists_eq_left', Array.size_replicate, hda]
  rw [if_neg (by omega)]
  exact ⟨h1, h2, hfits, hq⟩
theorem sm_reff {t : FieldType} (h : t.isReference = true) (v : Value) (hv : v = .null ∨ ∃ a, v = .ref a) : fits t v = true := by
  rcases hv with rfl | ⟨a, rfl⟩ <;> cases t <;> simp [FieldType.isReference] at h <;> rfl
theorem sm_make {c cI cc : ClassId} {k kc : Class} {t0 ty : FieldType} {n m : Int32} (hk : s.vm.classes[c]? = some k) (hkind : k.kind = .array cI t0) (href : t0.isReference = true) (hkc : s.vm.classes[cI]? = some kc) (hkindc : kc.kind = .array cc ty) (hn : ¬ n < 0) (hm : ¬ m < 0)
    (hl1 : ¬ n.toNatClampNeg > e.platform.arrayLengthLimit) (hh1 : ¬ n.toNatClampNeg * componentBytes t0 > e.platform.maxHeapBytes) (hl2 : ¬ m.toNatClampNeg > e.platform.arrayLengthLimit) (hh2 : ¬ m.toNatClampNeg * componentBytes ty > e.platform.maxHeapBytes) (hdf : fits ty (defaultValue ty) = true) (hdd : (defaultValue ty).isDefault = true)
    (hc : s.heap.size + 1 + n.toNatClampNeg ≤ e.platform.maxCells) (hs : s.slotsUsed + n.toNatClampNeg + n.toNatClampNeg * m.toNatClampNeg ≤ e.platform.maxSlots)
    {Q : Addr → Pre} (hq : ∀ d' acts', Q s.heap.size d' acts' (sm_f s c cI n.toNatClampNeg m.toNatClampNeg (defaultValue ty) n.toNatClampNeg)) : wp (Jvm.Op.multianewarray.make c [n, m]) Q X e d acts s := by
  have hno : ([m].find? (· < 0)) = none := by simp [hm]
  rw [Jvm.Op.multianewarray.make]
  simp only [wp_bind', W.ite, hn, if_false, wp_pure', W.theClass, hk, hkind, Option.some.injEq, exists_eq_left']
  refine sm_new hk hkind hl1 hh1 (sm_reff href _ (Or.inl rfl)) rfl (by omega) (by have := Nat.zero_le (n.toNatClampNeg * m.toNatClampNeg); omega) ?_
  simp only [hno]
  rw [ite_self, wp_bind', Std.Legacy.Range.forIn_eq_forIn_range']
  have hsz : ([:n.toNatClampNeg] : Std.Legacy.Range).size = n.toNatClampNeg := by simp [Std.Legacy.Range.size]
  rw [hsz]
  show wp (forIn (List.range' 0 n.toNatClampNeg 1) PUnit.unit _) _ X e d acts _
  refine wp_forIn_inv (fun rest t => ∃ i, i ≤ n.toNatClampNeg ∧ rest = List.range' i (n.toNatClampNeg - i) ∧ t = sm_f s c cI n.toNatClampNeg m.toNatClampNeg (defaultValue ty) i) _ _ ⟨0, Nat.zero_le _, rfl, by simp [sm_f, sm_o]⟩ ?_ ?_
  · rintro x rest t d' acts' Q' ⟨i, hi, hl, rfl⟩ hnext
    have hlt : i < n.toNatClampNeg := by
      rcases Nat.lt_or_ge i n.toNatClampNeg with h | h
      · exact h
      · rw [show n.toNatClampNeg - i = 0 from by omega] at hl; simp at hl
    rw [show n.toNatClampNeg - i = (n.toNatClampNeg - (i + 1)) + 1 from by omega, List.range'_succ] at hl
    obtain ⟨rfl, hrest⟩ := List.cons.inj hl
    obtain ⟨f1, f2, f3, f4, f5, f6⟩ := sm_facts s c cI n.toNatClampNeg m.toNatClampNeg (defaultValue ty) x
    have hmul : x * m.toNatClampNeg + m.toNatClampNeg ≤ n.toNatClampNeg * m.toNatClampNeg := by
      have := Nat.mul_le_mul_right m.toNatClampNeg (show x + 1 ≤ n.toNatClampNeg from hlt)
      rw [Nat.succ_mul] at this; exact this
    rw [wp_bind', Jvm.Op.multianewarray.make]
    simp only [wp_bind', W.ite, hm, if_false, wp_pure', W.theClass, f3, hkc, hkindc, Option.some.injEq, exists_eq_left']
    refine sm_new (by rw [f3]; exact hkc) hkindc hl2 hh2 hdf hdd (by rw [f1]; omega) (by rw [f4]; omega) ?_
    have hlt0 : s.heap.size < (sm_f s c cI n.toNatClampNeg m.toNatClampNeg (defaultValue ty) x).heap.size := by rw [f1]; omega
    simp only [wp_bind', W.writeLoc, wp_pure']
    refine ⟨sm_o c n.toNatClampNeg s.heap.size x, by rw [State.heap_pushCell_of_lt (h := hlt0)]; exact f2, by simp [sm_o, arrV], by rw [sm_o, arrV_size]; exact hlt, ?_, hnext _ _ _ ⟨x + 1, hlt, hrest, ?_⟩⟩
    · simp [sm_o, arrV, State.fitsSlot, State.slotType?, f3, hk, hkind, sm_reff href _ (Or.inr ⟨_, rfl⟩)]
    · rw [f1, sm_oset]; rfl
  · rintro t d' acts' ⟨i, hi, hl, rfl⟩
    have hiN : i = n.toNatClampNeg := by
      rcases Nat.lt_or_ge i n.toNatClampNeg with h | h
      · rw [show n.toNatClampNeg - i = (n.toNatClampNeg - (i + 1)) + 1 from by omega, List.range'_succ] at hl; cases hl
      · omega
    subst hiN
    simp only [wp_pure']
    exact hq _ _
end SMW
theorem sm_stand {p : Program} {l : Launch} {e : Env} {R : Room} {s : State} {m : MethodId} {args : Array Value} {below : List Frame} {meth : Method} {c : Code} {T : State} {locs : List Loc} {cells slots : Nat} (Y : Stand p l e R s m args below meth c T locs cells slots) (cA cI : ClassId) (N K : Nat) (v : Value) :
    ∀ i, Stand p l e R s m args below meth c (sm_f T cA cI N K v i) (locs ++ (List.range i).map fun j => ⟨T.heap.size, j⟩) (cells + 1 + i) (slots + N + i * K)
  | 0 => by
    have h := Y.pushed (sm_o cA N T.heap.size 0)
    rw [sm_o, arrV_size] at h
    simpa [sm_f, sm_o] using h
  | i + 1 => by
    have Yi := sm_stand Y cA cI N K v i
    obtain ⟨f1, f2, f3, f4, f5, f6⟩ := sm_facts T cA cI N K v i
    have hj2 : T.heap.size < (sm_f T cA cI N K v i).heap.size := by omega
    have hcell : ((sm_f T cA cI N K v i).pushCell (arrV cI K (fun _ => v))).heap[T.heap.size]? = some (sm_o cA N T.heap.size i) := by rw [State.heap_pushCell_of_lt (h := hj2)]; exact f2
    have h := (Yi.pushed (arrV cI K (fun _ => v))).stored hcell i (.ref (T.heap.size + 1 + i))
    rw [arrV_size, sm_oset] at h
    rw [show (locs ++ (List.range (i + 1)).map fun j => (⟨T.heap.size, j⟩ : Loc)) = (locs ++ (List.range i).map fun j => (⟨T.heap.size, j⟩ : Loc)) ++ [⟨T.heap.size, i⟩] by simp [List.range_succ, List.append_assoc], show slots + N + (i + 1) * K = slots + N + i * K + K by rw [Nat.succ_mul]; omega]
    exact h
/-- the picture behind it -/
def sv_mkM (h : sv_H) (kO kI n k : Nat) : sv_H := (fun a j => if sv_nx h ≤ a ∧ a ≤ sv_nx h + n then 0 else h.1 a j, fun a j => if sv_nx h ≤ a ∧ a ≤ sv_nx h + n then 0 else h.2.1 a j,
  fun a j => if a = sv_nx h then (if j < n then some (sv_nx h + 1 + j) else none) else if sv_nx h < a ∧ a ≤ sv_nx h + n then none else h.2.2.1 a j,
  fun a => if a = sv_nx h then n else if sv_nx h < a ∧ a ≤ sv_nx h + n then k else sv_ln h a, fun a => if a = sv_nx h then kO else if sv_nx h < a ∧ a ≤ sv_nx h + n then kI else sv_kd h a, sv_nx h + 1 + n, sv_sl h + (n + n * k))
theorem sv_AA_use {t : FieldType} {args : Array Value} {U : State} (h : sv_AA t U) : (Cond.arrayOver (.array t)).before args U = true := h
section SMV
variable {α : Type} {E : sv_E} {M : sv_M} {d pc : Nat} {φ : α → Option Value × sv_H} {lv : List (Nat × Value)} {st : List Value} {h : sv_H} {o : Option α}
theorem sv_multi {index kO kI : Nat} {n k : Int32} (hd : decode M.2.1 pc = .ok (.multianewarray index 2, 4)) (hO : sv_aty kO = .array (sv_aty kI)) (hcl : Cond.classLink M.1.cls index ("[" ++ (FieldType.array (sv_aty kI)).toString) ∈ sv_T) (harr : Cond.arrayClass (sv_aty kI) ∈ sv_T ∧ (¬ kI < 13) ∧ kI < 28 ∧ sv_nf (sv_aty kI) = true ∧ componentBytes (sv_aty kI) ≤ 8 ∧ (∀ C, sv_aty kI ≠ .object C)) (hov : ∀ s, sv_A s → sv_AA (sv_aty kI) s) (hkO : (¬ kO < 13) ∧ kO < 28) (hdf : fits (sv_aty kI) (defaultValue (sv_aty kI)) = true ∧ (defaultValue (sv_aty kI)).isDefault = true ∧ ∀ (h' : sv_H) c j, h'.1 c j = 0 → h'.2.1 c j = 0 → h'.2.2.1 c j = none → sv_fv E h' c (sv_aty kI) j = defaultValue (sv_aty kI)) (hnb : sd_nb n = true) (hkb : sd_nb k = true)
    (kk : sv_V E M d φ (pc + 4) lv (sv_r E (sv_nx h) :: st) (sv_mkM h kO kI n.toNatClampNeg k.toNatClampNeg) o) : sv_V E M d φ pc lv (.int k :: .int n :: st) h o := by
  intro a ho
  obtain ⟨⟨hm1, hm2, hm3⟩, kk⟩ := kk a ho
  obtain ⟨n0, n1⟩ := of_decide_eq_true hnb
  obtain ⟨k0, k1⟩ := of_decide_eq_true hkb
  obtain ⟨w1, w2, w3, w4, w5, w6⟩ := harr
  have hm1 : sv_nx h + 1 + n.toNatClampNeg ≤ sv_nx (φ a).2 := hm1
  have hm2 : sv_sl h + (n.toNatClampNeg + n.toNatClampNeg * k.toNatClampNeg) ≤ sv_sl (φ a).2 := hm2
  refine ⟨⟨by omega, by omega, hm3⟩, ?_⟩
  intro p l e R s m args below meth cd H locs cells slots Z ls c0 s0 Fx hK hP hS hB hR hc hs0 hl hE
  obtain ⟨r1, r2, r3, r4⟩ := hR
  obtain ⟨hx, hb, hml, hown, hts, hrst⟩ := id Fx
  intro T hT Y
  have hpl : e.platform.magicAccessors = ({} : Platform).magicAccessors := by rw [Y.admits.platform]
  obtain ⟨cI, cA, kA, g1, -, g3, g4, g5⟩ := arrayOverA_spec (sv_AA_use (args := args) (hov s hK.2.2.2.2))
  obtain ⟨cI', kC, cc, q1, q2, q3⟩ := Cond.arrayClass_spec (hts _ w1)
  have ec : cI' = cI := Option.some.inj (q1.symm.trans g1)
  subst ec
  obtain ⟨c1, hf1, hcl1⟩ := Cond.classLink_spec hown (hts _ hcl) e.platform hpl
  cases g5.symm.trans hf1
  obtain ⟨hg1, hwarm, hready⟩ := State.classEntry (e := e) Y.warmed hcl1
  generalize T.vm.noted m.cls index (.cls cA) = vm1 at hg1 hwarm hready
  obtain ⟨kA1, hkA1, heA⟩ := hwarm.alike.2.2 _ _ g3
  obtain ⟨kC1, hkC1, heC⟩ := hwarm.alike.2.2 _ _ q2
  have hkindA : kA1.kind = .array cI' (.array (sv_aty kI)) := by rw [heA]; exact g4
  have hkindC : kC1.kind = .array cc (sv_aty kI) := by rw [heC]; exact q3
  have Y1 := sm_stand (Y.noted hwarm) cA cI' n.toNatClampNeg k.toNatClampNeg (defaultValue (sv_aty kI)) n.toNatClampNeg
  obtain ⟨f1, f2, f3, f4, f5, f6⟩ := sm_facts (T.setVm vm1) cA cI' n.toNatClampNeg k.toNatClampNeg (defaultValue (sv_aty kI)) n.toNatClampNeg
  have hT1 : (T.setVm vm1).heap = H := hT
  rw [hT1] at f1 f2 f5 f6
  generalize hG : (sm_f (T.setVm vm1) cA cI' n.toNatClampNeg k.toNatClampNeg (defaultValue (sv_aty kI)) n.toNatClampNeg) = G at *
  have had : ∀ j, sv_ad E (sv_nx h + 1 + j) = H.size + 1 + j := fun j => by
    have e1 := hP.1
    have e2 := hP.2.1
    unfold sv_ad
    rw [if_neg (by omega)]
    omega
  have hP1 : sv_P E s (sv_mkM h kO kI n.toNatClampNeg k.toNatClampNeg) G.heap := by
    refine ⟨?_, ?_, fun c hc => ?_, fun q hq => (hP.2.2.2 q hq).kept (fun x hx _ => f5 x hx)⟩
    · show G.heap.size + 64 = E.1 + (sv_nx h + 1 + n.toNatClampNeg)
      have := hP.1
      omega
    · show 64 ≤ sv_nx h + 1 + n.toNatClampNeg
      have := hP.2.1
      omega
    · have hc : c < sv_nx h + 1 + n.toNatClampNeg := hc
      rcases Nat.lt_trichotomy c (sv_nx h) with q | q | q
      · refine (hP.2.2.1 c q).kept (f5 _ (sv_ad_old hK.1 hP q)) ?_ ?_ (fun j => ⟨?_, ?_, ?_⟩)
        · show (if c = sv_nx h then _ else if _ then _ else sv_ln h c) = _
          rw [if_neg (by omega), if_neg (by omega)]
        · show (if c = sv_nx h then _ else if _ then _ else sv_kd h c) = _
          rw [if_neg (by omega), if_neg (by omega)]
        · show (if _ then _ else h.1 c j) = _
          rw [if_neg (by omega)]
        · show (if _ then _ else h.2.1 c j) = _
          rw [if_neg (by omega)]
        · show (if c = sv_nx h then _ else if _ then _ else h.2.2.1 c j) = _
          rw [if_neg (by omega), if_neg (by omega)]
      · subst q
        have e1 : sv_kd (sv_mkM h kO kI n.toNatClampNeg k.toNatClampNeg) (sv_nx h) = kO := by show (if sv_nx h = sv_nx h then _ else _) = _; rw [if_pos rfl]
        have e2 : sv_ln (sv_mkM h kO kI n.toNatClampNeg k.toNatClampNeg) (sv_nx h) = n.toNatClampNeg := by show (if sv_nx h = sv_nx h then _ else _) = _; rw [if_pos rfl]
        have e3 : ∀ j, sv_fv E (sv_mkM h kO kI n.toNatClampNeg k.toNatClampNeg) (sv_nx h) (.array (sv_aty kI)) j = if j < n.toNatClampNeg then .ref (H.size + 1 + j) else .null := fun j => by
          show sv_rf E ((sv_mkM h kO kI n.toNatClampNeg k.toNatClampNeg).2.2.1 (sv_nx h) j) = _
          show sv_rf E (if sv_nx h = sv_nx h then _ else _) = _
          rw [if_pos rfl]
          by_cases hj : j < n.toNatClampNeg
          · rw [if_pos hj, if_pos hj, ← had]; rfl
          · rw [if_neg hj, if_neg hj]; rfl
        unfold sv_cell
        rw [e1, if_neg hkO.1, if_pos hkO.2, hO]
        refine ⟨sm_o cA n.toNatClampNeg H.size n.toNatClampNeg, by rw [sv_ad_nx hP]; exact f2, ⟨fun z q => (by cases q), kA, g3, cI', g4⟩, fun z => (by cases z), by rw [e2, sm_o, arrV_size]; exact ⟨Nat.le_refl _, rfl⟩, fun j hj => ?_, fun _ => ⟨cA, ?_, g5⟩, trivial⟩
        · rw [e2] at hj
          rw [sm_o, arrV_read _ _ hj, e3]
        · rw [e2, sm_o]
          congr 1
          funext j
          exact (e3 j).symm
      · obtain ⟨j0, rfl⟩ : ∃ j0, c = sv_nx h + 1 + j0 := ⟨c - (sv_nx h + 1), by omega⟩
        have e1 : sv_kd (sv_mkM h kO kI n.toNatClampNeg k.toNatClampNeg) (sv_nx h + 1 + j0) = kI := by
          show (if sv_nx h + 1 + j0 = sv_nx h then _ else if _ then _ else _) = _
          rw [if_neg (by omega), if_pos (by omega)]
        have e2 : sv_ln (sv_mkM h kO kI n.toNatClampNeg k.toNatClampNeg) (sv_nx h + 1 + j0) = k.toNatClampNeg := by
          show (if sv_nx h + 1 + j0 = sv_nx h then _ else if _ then _ else _) = _
          rw [if_neg (by omega), if_pos (by omega)]
        have e3 : ∀ j, sv_fv E (sv_mkM h kO kI n.toNatClampNeg k.toNatClampNeg) (sv_nx h + 1 + j0) (sv_aty kI) j = defaultValue (sv_aty kI) := fun j => hdf.2.2 _ _ _ (by show (if _ then _ else _) = _; rw [if_pos (by omega)]) (by show (if _ then _ else _) = _; rw [if_pos (by omega)]) (by show (if sv_nx h + 1 + j0 = sv_nx h then _ else if _ then _ else _) = _; rw [if_neg (by omega), if_pos (by omega)])
        unfold sv_cell
        rw [e1, if_neg w2, if_pos w3]
        refine ⟨arrV cI' k.toNatClampNeg (fun _ => defaultValue (sv_aty kI)), by rw [had]; exact f6 j0 (by omega), ⟨fun z q => (by cases q), kC, q2, cc, q3⟩, fun z => (by cases z), by rw [e2, arrV_size]; exact ⟨Nat.le_refl _, rfl⟩, fun j hj => ?_, fun _ => ⟨cI', ?_, q1⟩, ?_⟩
        · rw [e2] at hj
          rw [arrV_read _ _ hj, e3]
        · rw [e2]
          congr 1
          funext j
          exact (e3 j).symm
        · unfold sv_ra
          split
          · next C hC => exact absurd hC (w6 C)
          · trivial
  have hrun : ∀ t, Steps p.tables e below (G.setTop (F0 m (pc + 4) ls (.ref H.size :: st))) t → Steps p.tables e below (T.setTop (F0 m pc ls (.int k :: .int n :: st))) t := fun t ht => by
    have hal1 : ¬ n.toNatClampNeg > e.platform.arrayLengthLimit := by rw [Launch.admits_arrayLengthLimit Y.admits]; omega
    have hah1 : ¬ n.toNatClampNeg * componentBytes (.array (sv_aty kI)) > e.platform.maxHeapBytes := by
      rw [Launch.admits_maxHeapBytes Y.admits]; show ¬ n.toNatClampNeg * 4 > 536870912; omega
    have hal2 : ¬ k.toNatClampNeg > e.platform.arrayLengthLimit := by rw [Launch.admits_arrayLengthLimit Y.admits]; omega
    have hah2 : ¬ k.toNatClampNeg * componentBytes (sv_aty kI) > e.platform.maxHeapBytes := by
      rw [Launch.admits_maxHeapBytes Y.admits]
      have := Nat.mul_le_mul k1 w5
      omega
    obtain ⟨hr1, hr2⟩ := Y.roomAbove (show cells + (1 + n.toNatClampNeg) ≤ R.cells by omega) (show slots + (n.toNatClampNeg + n.toNatClampNeg * k.toNatClampNeg) ≤ R.slots by omega)
    have hdg : decode cd.code pc = .ok (.multianewarray index 2, 4) := by rw [hb]; exact hd
    jvm_step Y.here [hx, hdg]
    simp only [Jvm.Op.multianewarray.sem, wp_bind', W.resolveClassAt_links (State.method?_setTop (F0 m pc ls (.int k :: .int n :: st)) Y.here.top) hg1]
    rw [W.popN, if_neg (by decide)]
    refine ⟨F0 m pc ls (.int k :: .int n :: st), State.topJava?_setTop' (s := T.setVm vm1) _ Y.here.top, [.int n, .int k], st, rfl, rfl, ?_⟩
    simp only [List.mapM_cons, List.mapM_nil, wp_bind', wp_pure']
    refine sm_make (k := kA1) (kc := kC1) (cI := cI') (cc := cc) (t0 := .array (sv_aty kI)) (ty := sv_aty kI) hkA1 hkindA rfl hkC1 hkindC n0 k0 hal1 hah1 hal2 hah2 hdf.1 hdf.2.1 (by show T.heap.size + 1 + _ ≤ _; omega) (by show T.slotsUsed + _ + _ ≤ _; omega) (fun d' acts' => ?_)
    have eS : ((T.setTop (F0 m pc ls (.int k :: .int n :: st))).setVm vm1).setTop { F0 m pc ls (.int k :: .int n :: st) with stack := st } = (T.setVm vm1).setTop { F0 m pc ls (.int k :: .int n :: st) with stack := st } := by
      show ((T.setVm vm1).setTop _).setTop _ = _
      rw [State.setTop_setTop]
    rw [eS, sm_top, hG]
    simp only [wp_bind', W.mark, W.pushRef, State.topJava?_setTop' _ Y1.here.top, Option.some.injEq, exists_eq_left', State.setTop_setTop, State.heap_setTop]
    intro acts
    simp [jvm, Y1.here.top]
    rw [← hT] at ht
    exact ht
  have hoo : ∀ q : Nat, q < H.size → G.heap[q]? = H[q]? := f5
  have er : Value.ref H.size = sv_r E (sv_nx h) := by unfold sv_r; rw [sv_ad_nx hP]
  obtain ⟨t, t1, t2⟩ := kk p l e R s m args below meth cd G.heap _ (cells + 1 + n.toNatClampNeg) (slots + n.toNatClampNeg + n.toNatClampNeg * k.toNatClampNeg) Z ls c0 s0 Fx hK hP1 ⟨by have := hS.1; omega, fun q h1 h2 => (hoo q (Nat.lt_of_lt_of_le h1 hS.1)).trans (hS.2.1 q h1 h2), fun q hq => by
    rcases List.mem_append.mp hq with hq | hq
    · exact hS.2.2 q hq
    · obtain ⟨j, -, rfl⟩ := List.mem_map.mp hq
      show E.1 ≤ (T.setVm vm1).heap.size
      rw [hT1]
      exact Nat.le_trans hB hS.1⟩ hB ⟨r1, r2, r3, r4⟩ (by show cells + 1 + n.toNatClampNeg + c0 = sv_nx h + 1 + n.toNatClampNeg; omega) (by show slots + n.toNatClampNeg + n.toNatClampNeg * k.toNatClampNeg + s0 = sv_sl h + (n.toNatClampNeg + n.toNatClampNeg * k.toNatClampNeg); omega) hl hE G rfl Y1
  refine ⟨t, hrun t ?_, t2⟩
  rw [er]
  exact t1
end SMV
