/-! new cells, over any picture -/
def sv_z {α : Type} (f : Nat → Nat → α) (c : Nat) (v : α) : Nat → Nat → α := fun a j => if a = c then v else f a j
def sv_mk (h : sv_H) (k ln n : Nat) : sv_H := (sv_z h.1 (sv_nx h) 0, sv_z h.2.1 (sv_nx h) 0, sv_z h.2.2.1 (sv_nx h) none, sv_u1 (sv_ln h) (sv_nx h) ln, sv_u1 (sv_kd h) (sv_nx h) k, sv_nx h + 1, sv_sl h + n)
def sd_v : sv_H → Option Value × sv_H := fun s => (none, s)
def sd_i : Int32 × sv_H → Option Value × sv_H := fun q => (some (.int q.1), q.2)
def sd_l : Int64 × sv_H → Option Value × sv_H := fun q => (some (.long q.1), q.2)
def sd_q (E : sv_E) : Nat × sv_H → Option Value × sv_H := fun q => (some (sv_r E q.1), q.2)
def sd_ok (h : sv_H) (c k : Nat) : Bool := decide (sv_kd h c = k ∧ 64 ≤ c ∧ c < sv_nx h)
def sd_nb (n : Int32) : Bool := decide (¬ n < 0 ∧ n.toNatClampNeg ≤ 10000)
def sv_nf (t : FieldType) : Bool := match t with
  | .float => false
  | .double => false
  | _ => true
theorem sv_ad_old {E : sv_E} {s : State} {h : sv_H} {H : Heap} (hok : ∀ c, c < 64 → E.2.2 c < E.1) (hP : sv_P E s h H) {c : Nat} (hc : c < sv_nx h) : sv_ad E c < H.size := by
  have h1 := hP.1
  have h2 := hP.2.1
  unfold sv_ad
  by_cases q : c < 64
  · rw [if_pos q]; have := hok c q; omega
  · rw [if_neg q]; omega
theorem sv_P.grow {E : sv_E} {s : State} {h : sv_H} {H H1 : Heap} {k ln n : Nat} (hP : sv_P E s h H) (hok : ∀ c, c < 64 → E.2.2 c < E.1) (hz : H1.size = H.size + 1) (ho : ∀ q : Nat, q < H.size → H1[q]? = H[q]?) (hcell : sv_cell E s (sv_mk h k ln n) H1 (sv_nx h)) : sv_P E s (sv_mk h k ln n) H1 := by
  refine ⟨?_, ?_, fun c hc => ?_, fun q hq => (hP.2.2.2 q hq).kept (fun a ha _ => ho a ha)⟩
  · show H1.size + 64 = E.1 + (sv_nx h + 1)
    have := hP.1
    omega
  · show 64 ≤ sv_nx h + 1
    have := hP.2.1
    omega
  · have hc : c < sv_nx h + 1 := hc
    by_cases e : c = sv_nx h
    · rw [e]; exact hcell
    · have hc2 : c < sv_nx h := by omega
      exact (hP.2.2.1 c hc2).kept (ho _ (sv_ad_old hok hP hc2)) (by show sv_u1 (sv_ln h) (sv_nx h) ln c = _; simp [sv_u1, e]) (by show sv_u1 (sv_kd h) (sv_nx h) k c = _; simp [sv_u1, e]) (fun j => ⟨by simp [sv_mk, sv_z, e], by simp [sv_mk, sv_z, e], by simp [sv_mk, sv_z, e]⟩)
theorem sv_fv_new {E : sv_E} {h : sv_H} {k ln n : Nat} {t : FieldType} (ht : sv_nf t = true) (j : Nat) : sv_fv E (sv_mk h k ln n) (sv_nx h) t j = defaultValue t := by
  cases t <;> first | (simp [sv_nf] at ht; done) | simp [sv_fv, sv_mk, sv_z, sv_rf, defaultValue]
theorem w_oin : Cond.instanceMethod Lib.objectInit ∈ sv_T := sv_in 117 (by decide +kernel) rfl
theorem w_oco : Cond.code Lib.objectInit ⟨#[0xb1]⟩ 1 none ∈ sv_T := sv_in 118 (by decide +kernel) rfl
section SVA
variable {α : Type} {E : sv_E} {M : sv_M} {d pc : Nat} {φ : α → Option Value × sv_H} {lv : List (Nat × Value)} {st : List Value} {h : sv_H} {o : Option α}
theorem sd_lets {f : sv_H → Option α} (k : ∀ x, x = h → sv_V E M d φ pc lv st x (f x)) : sv_V E M d φ pc lv st h (ss_let h f) := k h rfl
theorem sd_gd {c kk : Nat} (k : sv_kd h c = kk → 64 ≤ c → c < sv_nx h → sv_V E M d φ pc lv st h o) : sv_V E M d φ pc lv st h (if sd_ok h c kk = true then o else none) := by
  by_cases q : sd_ok h c kk = true
  · rw [if_pos q]; exact k (of_decide_eq_true q).1 (of_decide_eq_true q).2.1 (of_decide_eq_true q).2.2
  · rw [if_neg q]; exact sv_none
theorem sd_getR {index : Nat} {C : String} {T : u_T} {N : Nat} {ty : Nat → FieldType} {kk a : Nat} {kf : Nat → Option α} (j : Nat) (hd : decode M.2.1 pc = .ok (.getfield index, 3)) (hcf : sv_CF kk C T N ty) (hj : j < N) (hln : Cond.fieldLink M.1.cls index C (T j).2.1 (T j).2.2.1 ∈ sv_T) (hkd : sv_kd h a = kk) (hlt : a < sv_nx h) (hv : ∀ h' : sv_H, sv_fv E h' a (ty j) j = sv_rf E (h'.2.2.1 a j)) (k : ∀ v, sv_V E M d φ (pc + 3) lv (sv_r E v :: st) h (kf v)) : sv_V E M d φ pc lv (sv_r E a :: st) h ((h.2.2.1 a j).bind kf) := by
  cases hz : h.2.2.1 a j with
  | none => exact sv_none
  | some v => exact sv_getf j hd hcf hj hln hkd hlt (by rw [hv, hz]; rfl) (k v)
theorem sd_getRN {index : Nat} {C host : String} {T : u_T} {N : Nat} {ty : Nat → FieldType} {kk a : Nat} {kf : Nat → Option α} (j : Nat) (hd : decode M.2.1 pc = .ok (.getfield index, 3)) (hcf : sv_CF kk C T N ty) (hj : j < N) (hln : Cond.fieldLinkNest M.1.cls index C (T j).2.1 (T j).2.2.1 host ∈ sv_N) (hkd : sv_kd h a = kk) (hlt : a < sv_nx h) (hv : ∀ h' : sv_H, sv_fv E h' a (ty j) j = sv_rf E (h'.2.2.1 a j)) (k : ∀ v, sv_V E M d φ (pc + 3) lv (sv_r E v :: st) h (kf v)) : sv_V E M d φ pc lv (sv_r E a :: st) h ((h.2.2.1 a j).bind kf) := by
  cases hz : h.2.2.1 a j with
  | none => exact sv_none
  | some v => exact sv_getN j hd hcf hj hln hkd hlt (by rw [hv, hz]; rfl) (k v)
theorem sd_aald {c kk : Nat} {i : Int32} {kf : Nat → Option α} (hd : decode M.2.1 pc = .ok (.aaload, 1)) (hkd : sv_kd h c = kk) (hk : ¬ kk < 24) (hk2 : kk < 28) (hrt : (sv_aty kk).isReference = true) (hlt : c < sv_nx h) (hin : vp_in i (sv_ln h c)) (hv : ∀ j, sv_fv E h c (sv_aty kk) j = sv_rf E (h.2.2.1 c j)) (k : ∀ v, sv_V E M d φ (pc + 1) lv (sv_r E v :: st) h (kf v)) : sv_V E M d φ pc lv (.int i :: sv_r E c :: st) h ((h.2.2.1 c i.toNatClampNeg).bind kf) := by
  cases hz : h.2.2.1 c i.toNatClampNeg with
  | none => exact sv_none
  | some v => exact sv_aald hd hkd hk hk2 hrt hlt hin (by rw [hv, hz]; rfl) (k v)
theorem sd_putI {index : Nat} {C : String} {T : u_T} {N : Nat} {ty : Nat → FieldType} {kk c : Nat} {v : Int32} (j : Nat) (hd : decode M.2.1 pc = .ok (.putfield index, 3)) (hcf : sv_CF kk C T N ty) (hj : j < N) (hfin : (T j).2.2.2 = false) (hln : Cond.fieldLink M.1.cls index C (T j).2.1 (T j).2.2.1 ∈ sv_T) (hkd : sv_kd h c = kk) (hc64 : 64 ≤ c) (hlt : c < sv_nx h) (hn : narrow (ty j) (.int v) = .int v) (hfit : fits (ty j) (.int v) = true) (hv : ∀ h : sv_H, sv_fv E h c (ty j) j = .int (h.1 c j))
    (k : sv_V E M d φ (pc + 3) lv st (sv_setI h c j v) o) : sv_V E M d φ pc lv (.int v :: sv_r E c :: st) h o := by
  refine sv_putf (h1 := sv_setI h c j v) j hd hcf hj hfin hln hkd hc64 hlt hn hfit ⟨rfl, rfl, rfl, rfl, fun a ha i => ⟨by simp [sv_setI, sv_up, ha], rfl, rfl⟩⟩ (by rw [hv]; simp [sv_setI, sv_up]) (fun i _ hi => ?_) k
  exact sv_fv_eq (h := h) (h1 := sv_setI h c j v) (c := c) (j := i) (by simp [sv_setI, sv_up, hi]) rfl rfl _
theorem sd_putIN {index : Nat} {C host : String} {T : u_T} {N : Nat} {ty : Nat → FieldType} {kk c : Nat} {v : Int32} (j : Nat) (hd : decode M.2.1 pc = .ok (.putfield index, 3)) (hcf : sv_CF kk C T N ty) (hj : j < N) (hfin : (T j).2.2.2 = false) (hln : Cond.fieldLinkNest M.1.cls index C (T j).2.1 (T j).2.2.1 host ∈ sv_N) (hkd : sv_kd h c = kk) (hc64 : 64 ≤ c) (hlt : c < sv_nx h) (hn : narrow (ty j) (.int v) = .int v) (hfit : fits (ty j) (.int v) = true) (hv : ∀ h : sv_H, sv_fv E h c (ty j) j = .int (h.1 c j))
    (k : sv_V E M d φ (pc + 3) lv st (sv_setI h c j v) o) : sv_V E M d φ pc lv (.int v :: sv_r E c :: st) h o := by
  refine sv_putN (h1 := sv_setI h c j v) j hd hcf hj hfin hln hkd hc64 hlt hn hfit ⟨rfl, rfl, rfl, rfl, fun a ha i => ⟨by simp [sv_setI, sv_up, ha], rfl, rfl⟩⟩ (by rw [hv]; simp [sv_setI, sv_up]) (fun i _ hi => ?_) k
  exact sv_fv_eq (h := h) (h1 := sv_setI h c j v) (c := c) (j := i) (by simp [sv_setI, sv_up, hi]) rfl rfl _
theorem sd_putIF {index : Nat} {C : String} {T : u_T} {N : Nat} {ty : Nat → FieldType} {kk c : Nat} {v : Int32} (j : Nat) (hd : decode M.2.1 pc = .ok (.putfield index, 3)) (hcf : sv_CF kk C T N ty) (hj : j < N) (hfin : (T j).2.2.2 = true) (hln : Cond.fieldLink M.1.cls index C (T j).2.1 (T j).2.2.1 ∈ sv_T) (hin : M.1.name = "<init>") (hC : C = M.1.cls) (hkd : sv_kd h c = kk) (hc64 : 64 ≤ c) (hlt : c < sv_nx h) (hn : narrow (ty j) (.int v) = .int v) (hfit : fits (ty j) (.int v) = true) (hv : ∀ h : sv_H, sv_fv E h c (ty j) j = .int (h.1 c j))
    (k : sv_V E M d φ (pc + 3) lv st (sv_setI h c j v) o) : sv_V E M d φ pc lv (.int v :: sv_r E c :: st) h o := by
  refine sv_putF (h1 := sv_setI h c j v) j hd hcf hj hfin hln hin hC hkd hc64 hlt hn hfit ⟨rfl, rfl, rfl, rfl, fun a ha i => ⟨by simp [sv_setI, sv_up, ha], rfl, rfl⟩⟩ (by rw [hv]; simp [sv_setI, sv_up]) (fun i _ hi => ?_) k
  exact sv_fv_eq (h := h) (h1 := sv_setI h c j v) (c := c) (j := i) (by simp [sv_setI, sv_up, hi]) rfl rfl _
theorem sd_rn {E : sv_E} {v : Nat} {t : FieldType} (ht : ∀ h' : sv_H, sv_fv E h' 0 t 0 = sv_rf E (h'.2.2.1 0 0)) : narrow t (sv_r E v) = sv_r E v ∧ fits t (sv_r E v) = true := by
  cases t <;> first | exact ⟨rfl, rfl⟩ | (have h9 := ht (fun _ _ => 0, fun _ _ => 0, fun _ _ => none, fun _ => 0, fun _ => 0, 0, 0); simp [sv_fv, sv_rf] at h9)
theorem sd_putRF {index : Nat} {C : String} {T : u_T} {N : Nat} {ty : Nat → FieldType} {kk c v : Nat} (j : Nat) (hd : decode M.2.1 pc = .ok (.putfield index, 3)) (hcf : sv_CF kk C T N ty) (hj : j < N) (hfin : (T j).2.2.2 = true) (hln : Cond.fieldLink M.1.cls index C (T j).2.1 (T j).2.2.1 ∈ sv_T) (hin : M.1.name = "<init>") (hC : C = M.1.cls) (hkd : sv_kd h c = kk) (hc64 : 64 ≤ c) (hlt : c < sv_nx h) (hv : ∀ (q : sv_H × Nat × Nat), sv_fv E q.1 q.2.1 (ty j) q.2.2 = sv_rf E (q.1.2.2.1 q.2.1 q.2.2))
    (k : sv_V E M d φ (pc + 3) lv st (sv_setR h c j (some v)) o) : sv_V E M d φ pc lv (sv_r E v :: sv_r E c :: st) h o := by
  obtain ⟨hn, hfit⟩ := sd_rn (E := E) (v := v) (t := ty j) (fun h' => hv (h', 0, 0))
  refine sv_putF (h1 := sv_setR h c j (some v)) j hd hcf hj hfin hln hin hC hkd hc64 hlt hn hfit ⟨rfl, rfl, rfl, rfl, fun a ha i => ⟨rfl, rfl, by simp [sv_setR, sv_up, ha]⟩⟩ (by rw [hv (sv_setR h c j (some v), c, j)]; simp [sv_setR, sv_up, sv_rf, sv_r]) (fun i _ hi => ?_) k
  exact sv_fv_eq (h := h) (h1 := sv_setR h c j (some v)) (c := c) (j := i) rfl rfl (by simp [sv_setR, sv_up, hi]) _
theorem sv_objInit {idx a : Nat} (hd : decode M.2.1 pc = .ok (.invokespecial idx, 3)) (hln : Cond.methodLink M.1.cls idx Lib.objectInit ∈ sv_T) (hrest : (st.map fun v => v.category).sum ≤ 8) (k : sv_V E M (d + 1) φ (pc + 3) lv st h o) : sv_V E M (d + 1) φ pc lv (sv_r E a :: st) h o := by
  intro x ho
  obtain ⟨hm, k⟩ := k x ho
  refine ⟨hm, ?_⟩
  intro p l e R s m args below meth c H locs cells slots Z ls c0 s0 Fx hK hP hS hB hR hc hs hl hE
  exact W.objInit Fx.1 Fx.2.1 Fx.2.2.2.1 (Fx.2.2.2.2.1 _ hln) (Fx.2.2.2.2.1 _ w_oin) (Fx.2.2.2.2.1 _ w_oco) (g := F0 m pc ls (sv_r E a :: st)) rfl (by rw [Fx.2.2.1]; exact hl.1) rfl hd (by have := hR.1; omega) (by have := hR.2.1; show 2 * 0 + _ + 12 ≤ _; omega) (k p l e R s m args below meth c H locs cells slots Z ls c0 s0 Fx hK hP hS hB hR hc hs hl hE)
/-- a step that makes one cell -/
theorem sv_al {pc' kk L n : Nat} {lvst : List Value}
    (f : ∀ {p : Program} {l : Launch} {e : Env} {R : Room} {s : State} {m : MethodId} {args : Array Value} {below : List Frame} {meth : Method} {cd : Code} {H : Heap} {locs : List Loc} {cells slots : Nat} {Z : State → Prop} {ls : Array Slot} {st0 : List Value}, st0 = st → sv_Fx M p s m args meth cd → sv_K E s → sv_P E s h H → cells + 1 ≤ R.cells → slots + n ≤ R.slots →
      (∀ H1 : Heap, H1.size = H.size + 1 → (∀ q : Nat, q < H.size → H1[q]? = H[q]?) → sv_cell E s (sv_mk h kk L n) H1 (sv_nx h) → ∀ stn, stn = .ref H.size :: lvst → W p l e R s m args below meth cd H1 locs (cells + 1) (slots + n) Z (F0 m pc' ls stn)) → W p l e R s m args below meth cd H locs cells slots Z (F0 m pc ls st0))
    (k : sv_V E M d φ pc' lv (sv_r E (sv_nx h) :: lvst) (sv_mk h kk L n) o) : sv_V E M d φ pc lv st h o := by
  intro a ho
  obtain ⟨⟨hm1, hm2, hm3⟩, k⟩ := k a ho
  have hm1 : sv_nx h + 1 ≤ sv_nx (φ a).2 := hm1
  have hm2 : sv_sl h + n ≤ sv_sl (φ a).2 := hm2
  refine ⟨⟨by omega, by omega, hm3⟩, ?_⟩
  intro p l e R s m args below meth cd H locs cells slots Z ls c0 s0 Fx hK hP hS hB hR hc hs0 hl hE
  obtain ⟨r1, r2, r3, r4⟩ := hR
  refine f rfl Fx hK hP (by omega) (by omega) (fun H1 hz hq hcell stn hst => ?_)
  subst hst
  have e1 : Value.ref H.size = sv_r E (sv_nx h) := by unfold sv_r; rw [sv_ad_nx hP]
  rw [e1]
  exact k p l e R s m args below meth cd H1 _ _ _ Z ls c0 s0 Fx hK (hP.grow hK.1 hz hq hcell) ⟨by have := hS.1; omega, fun q h1 h2 => (hq q (Nat.lt_of_lt_of_le h1 hS.1)).trans (hS.2.1 q h1 h2), hS.2.2⟩ hB ⟨r1, r2, r3, r4⟩ (by show cells + 1 + c0 = sv_nx h + 1; omega) (by show slots + n + s0 = sv_sl h + n; omega) hl hE
theorem sv_new {index : Nat} {C : String} {T : u_T} {N : Nat} {ty : Nat → FieldType} {kk : Nat} (hd : decode M.2.1 pc = .ok (.new index, 3)) (hcf : sv_CF kk C T N ty) (hcl : Cond.classLink M.1.cls index C ∈ sv_T) (hins : Cond.instantiable C N ∈ sv_T) (hini : Cond.initialized C ∈ sv_T) (hnf : ∀ j, j < N → sv_nf (ty j) = true) (k : sv_V E M d φ (pc + 3) lv (sv_r E (sv_nx h) :: st) (sv_mk h kk 0 N) o) : sv_V E M d φ pc lv st h o := by
  refine sv_al (fun {p l e R s m args below meth cd H locs cells slots Z ls st0} hst Fx hK hP hce hsl kk2 => ?_) k
  subst hst
  obtain ⟨hx, hb, hml, hown, hts, -⟩ := Fx
  obtain ⟨c1, c2, c3, c4, c5, c6, c7⟩ := id hcf
  have hKn := hK.2.1 kk _ c1
  refine W.newcK hx hb hown (hts _ hcl) (hts _ hins) (hts _ hini) (g := F0 m pc ls st0) rfl hd hce hsl hKn.2.1 rfl fun H' kC hkC e1 z1 o1 => ?_
  refine kk2 H' z1 o1 ?_ _ rfl
  unfold sv_cell
  rw [show sv_kd (sv_mk h kk 0 N) (sv_nx h) = kk by simp [sv_kd, sv_mk, sv_u1], if_pos c2]
  refine ⟨_, c1, ?_⟩
  rw [sv_ad_nx hP]
  refine (u_born ty hts c3 hKn hkC e1 c4).to (fun j hj => ?_)
  rw [c7]
  exact (sv_fv_new (hnf j hj) j).symm
theorem sv_arr_new {s : State} {H H1 : Heap} {kk L : Nat} {cA : ClassId} (hP : sv_P E s h H) (hk : ¬ kk < 13) (hk2 : kk < 28) (hnf : sv_nf (sv_aty kk) = true) (e1 : H1[H.size]? = some (arrV cA L (fun _ => defaultValue (sv_aty kk)))) (hA : ArrOfT s cA (sv_aty kk)) (hf : s.vm.findClass ("[" ++ (sv_aty kk).toString) = some cA) (hra : sv_ra s (arrV cA L (fun _ => defaultValue (sv_aty kk))) (sv_aty kk)) : sv_cell E s (sv_mk h kk L L) H1 (sv_nx h) := by
  have hln : sv_ln (sv_mk h kk L L) (sv_nx h) = L := by show sv_u1 (sv_ln h) (sv_nx h) L (sv_nx h) = L; simp [sv_u1]
  unfold sv_cell
  rw [show sv_kd (sv_mk h kk L L) (sv_nx h) = kk by show sv_u1 (sv_kd h) (sv_nx h) kk (sv_nx h) = kk; simp [sv_u1], if_neg hk, if_pos hk2]
  refine ⟨_, by rw [sv_ad_nx hP]; exact e1, hA L _, fun z => (by cases z), by rw [hln, arrV_size]; exact ⟨Nat.le_refl _, rfl⟩, fun j hj => ?_, fun _ => ⟨cA, ?_, hf⟩, hra⟩
  · rw [hln] at hj
    rw [arrV_read _ _ hj, sv_fv_new hnf j]
  · rw [hln]
    congr 1
    funext j
    exact (sv_fv_new hnf j).symm
theorem sv_newa {atype : ArrayType} {kk : Nat} {n : Int32} (hd : decode M.2.1 pc = .ok (.newarray atype, 2)) (hty : newarray.typeOf atype = sv_aty kk) (harr : Cond.arrayClass (sv_aty kk) ∈ sv_T ∧ (¬ kk < 13) ∧ kk < 28 ∧ sv_nf (sv_aty kk) = true ∧ componentBytes (sv_aty kk) ≤ 8 ∧ (∀ C, sv_aty kk ≠ .object C)) (hnb : sd_nb n = true) (k : sv_V E M d φ (pc + 2) lv (sv_r E (sv_nx h) :: st) (sv_mk h kk n.toNatClampNeg n.toNatClampNeg) o) : sv_V E M d φ pc lv (.int n :: st) h o := by
  obtain ⟨n0, n1⟩ := of_decide_eq_true hnb
  obtain ⟨w1, w2, w3, w4, w5, w6⟩ := harr
  refine sv_al (fun {p l e R s m args below meth cd H locs cells slots Z ls st0} hst Fx hK hP hce hsl kk2 => ?_) k
  subst hst
  obtain ⟨hx, hb, hml, hown, hts, -⟩ := Fx
  refine va_newaK hx hb (atype := atype) (by rw [hty]; exact hts _ w1) (g := F0 m pc ls (.int n :: st)) rfl hd rfl n0 rfl (by rw [hty]; exact Nat.le_trans (Nat.mul_le_mul n1 w5) (by decide)) hce hsl rfl fun H1 cA e1 z1 o1 hAr hNm => ?_
  rw [hty] at e1 hAr hNm
  refine kk2 H1 z1 o1 (sv_arr_new hP w2 w3 w4 e1 hAr hNm ?_) _ rfl
  unfold sv_ra
  split
  · next C hC => exact absurd hC (w6 C)
  · trivial
theorem sv_anew {index kk : Nat} {C : String} {n : Int32} (hd : decode M.2.1 pc = .ok (.anewarray index, 3)) (hty : sv_aty kk = .object C) (hcl : Cond.classLink M.1.cls index C ∈ sv_T) (hk : (¬ kk < 13) ∧ kk < 28 ∧ (C = "PennyRates$Rate" ∨ C = "PennyRates$Law")) (hnb : sd_nb n = true) (k : sv_V E M d φ (pc + 3) lv (sv_r E (sv_nx h) :: st) (sv_mk h kk n.toNatClampNeg n.toNatClampNeg) o) : sv_V E M d φ pc lv (.int n :: st) h o := by
  obtain ⟨n0, n1⟩ := of_decide_eq_true hnb
  obtain ⟨w2, w3, w4⟩ := hk
  refine sv_al (fun {p l e R s m args below meth cd H locs cells slots Z ls st0} hst Fx hK hP hce hsl kk2 => ?_) k
  subst hst
  obtain ⟨hx, hb, hml, hown, hts, -⟩ := Fx
  have hov : va_AO C s := by rcases w4 with rfl | rfl; exact hK.2.2.2.2.1; exact hK.2.2.2.2.2.1
  refine W.anew hx hb hown (hts _ hcl) (va_AO.use hov) (g := F0 m pc ls (.int n :: st)) rfl hd rfl n0 (by omega) hce hsl fun cA kA comp h1 h2 h3 h4 => ?_
  have hAr : ArrOfT s cA (.object C) := fun N9 z9 => ⟨(fun q hq => by cases hq), kA, h2, comp, h3⟩
  refine kk2 _ (by simp) (fun q hq => by rw [Array.getElem?_push, if_neg (Nat.ne_of_lt hq)]) (sv_arr_new (cA := cA) hP w2 w3 (by rw [hty]; rfl) (by rw [hty, ← arrV_new]; simp [defaultValue]) (by rw [hty]; exact hAr) (by rw [hty]; exact h1) (by rw [hty]; exact ⟨kA, comp, h2, h3, h4⟩)) _ rfl
theorem sv_castI {index c : Nat} (hd : decode M.2.1 pc = .ok (.checkcast index, 3)) (hcl : Cond.classLink M.1.cls index "[I" ∈ sv_T) (hkd : sv_kd h c = 20) (hc : 64 ≤ c) (hlt : c < sv_nx h) (k : sv_V E M d φ (pc + 3) lv (sv_r E c :: st) h o) : sv_V E M d φ pc lv (sv_r E c :: st) h o := by
  refine sv_rd (fun {p l e R s m args below meth cd H locs cells slots Z ls} Fx hK hP kk2 => ?_) k
  obtain ⟨cell, a1, a2, a3, a4, a5, a6, a7⟩ := hP.arr hkd (by decide) (by decide) hlt
  obtain ⟨cA, g1, g2⟩ := a6 hc
  exact va_castE Fx.1 Fx.2.1 Fx.2.2.2.1 (Fx.2.2.2.2.1 _ hcl) ⟨cell, a1, by rw [g1]; rfl, by rw [g1]; exact g2⟩ hd kk2
end SVA
theorem wi0 : Cond.instantiable RX0 6 ∈ sv_T := sv_in 467 (by decide +kernel) rfl
theorem wn0 : Cond.initialized RX0 ∈ sv_T := sv_in 101 (by decide +kernel) rfl
theorem wi1 : Cond.instantiable RX1 6 ∈ sv_T := sv_in 387 (by decide +kernel) rfl
theorem wn1 : Cond.initialized RX1 ∈ sv_T := sv_in 99 (by decide +kernel) rfl
theorem wi2 : Cond.instantiable RX2 6 ∈ sv_T := sv_in 199 (by decide +kernel) rfl
theorem wn2 : Cond.initialized RX2 ∈ sv_T := sv_in 95 (by decide +kernel) rfl
theorem wi3 : Cond.instantiable RX3 10 ∈ sv_T := sv_in 150 (by decide +kernel) rfl
theorem wn3 : Cond.initialized RX3 ∈ sv_T := sv_in 93 (by decide +kernel) rfl
theorem wi4 : Cond.instantiable RX4 5 ∈ sv_T := sv_in 191 (by decide +kernel) rfl
theorem wn4 : Cond.initialized RX4 ∈ sv_T := sv_in 94 (by decide +kernel) rfl
theorem wi5 : Cond.instantiable RX5 12 ∈ sv_T := sv_in 254 (by decide +kernel) rfl
theorem wn5 : Cond.initialized RX5 ∈ sv_T := sv_in 97 (by decide +kernel) rfl
theorem wi6 : Cond.instantiable RX6 5 ∈ sv_T := sv_in 247 (by decide +kernel) rfl
theorem wn6 : Cond.initialized RX6 ∈ sv_T := sv_in 96 (by decide +kernel) rfl
theorem wi7 : Cond.instantiable RX7 5 ∈ sv_T := sv_in 120 (by decide +kernel) rfl
theorem wn7 : Cond.initialized RX7 ∈ sv_T := sv_in 91 (by decide +kernel) rfl
theorem wi8 : Cond.instantiable RX8 3 ∈ sv_T := sv_in 494 (by decide +kernel) rfl
theorem wn8 : Cond.initialized RX8 ∈ sv_T := sv_in 102 (by decide +kernel) rfl
theorem wi9 : Cond.instantiable RX9 11 ∈ sv_T := sv_in 346 (by decide +kernel) rfl
theorem wn9 : Cond.initialized RX9 ∈ sv_T := sv_in 98 (by decide +kernel) rfl
theorem wi10 : Cond.instantiable RX10 15 ∈ sv_T := sv_in 413 (by decide +kernel) rfl
theorem wn10 : Cond.initialized RX10 ∈ sv_T := sv_in 100 (by decide +kernel) rfl
theorem wi11 : Cond.instantiable RX11 11 ∈ sv_T := sv_in 112 (by decide +kernel) rfl
theorem wn11 : Cond.initialized RX11 ∈ sv_T := sv_in 90 (by decide +kernel) rfl
theorem wi12 : Cond.instantiable RX12 79 ∈ sv_T := sv_in 1297 (by decide +kernel) rfl
theorem wn12 : Cond.initialized RX12 ∈ sv_T := sv_in 103 (by decide +kernel) rfl
theorem wa20 : Cond.arrayClass (sv_aty 20) ∈ sv_T ∧ (¬ 20 < 13) ∧ 20 < 28 ∧ sv_nf (sv_aty 20) = true ∧ componentBytes (sv_aty 20) ≤ 8 ∧ (∀ C, sv_aty 20 ≠ .object C) := ⟨sv_in 148 (by decide +kernel) rfl, by decide, by decide, rfl, by decide, fun C h => by cases h⟩
theorem wa22 : Cond.arrayClass (sv_aty 22) ∈ sv_T ∧ (¬ 22 < 13) ∧ 22 < 28 ∧ sv_nf (sv_aty 22) = true ∧ componentBytes (sv_aty 22) ≤ 8 ∧ (∀ C, sv_aty 22 ≠ .object C) := ⟨sv_in 189 (by decide +kernel) rfl, by decide, by decide, rfl, by decide, fun C h => by cases h⟩
theorem wa21 : Cond.arrayClass (sv_aty 21) ∈ sv_T ∧ (¬ 21 < 13) ∧ 21 < 28 ∧ sv_nf (sv_aty 21) = true ∧ componentBytes (sv_aty 21) ≤ 8 ∧ (∀ C, sv_aty 21 ≠ .object C) := ⟨sv_in 515 (by decide +kernel) rfl, by decide, by decide, rfl, by decide, fun C h => by cases h⟩
theorem wa23 : Cond.arrayClass (sv_aty 23) ∈ sv_T ∧ (¬ 23 < 13) ∧ 23 < 28 ∧ sv_nf (sv_aty 23) = true ∧ componentBytes (sv_aty 23) ≤ 8 ∧ (∀ C, sv_aty 23 ≠ .object C) := ⟨sv_in 1540 (by decide +kernel) rfl, by decide, by decide, rfl, by decide, fun C h => by cases h⟩
theorem wa24 : (¬ 24 < 13) ∧ 24 < 28 ∧ (("PennyRates$Rate" : String) = "PennyRates$Rate" ∨ ("PennyRates$Rate" : String) = "PennyRates$Law") := ⟨by decide, by decide, by decide⟩
theorem wa25 : (¬ 25 < 13) ∧ 25 < 28 ∧ (("PennyRates$Law" : String) = "PennyRates$Rate" ∨ ("PennyRates$Law" : String) = "PennyRates$Law") := ⟨by decide, by decide, by decide⟩
