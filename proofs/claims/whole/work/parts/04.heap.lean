/-! fields, arrays, new cells -/
theorem sv_ad_ne {E : sv_E} (hok : ∀ c, c < 64 → E.2.2 c < E.1) {c c' : Nat} (hc : 64 ≤ c) (hne : c' ≠ c) : sv_ad E c' ≠ sv_ad E c := by
  unfold sv_ad
  rw [if_neg (Nat.not_lt.mpr hc)]
  by_cases h : c' < 64
  · rw [if_pos h]; have := hok c' h; omega
  · rw [if_neg h]; omega
theorem sv_ad_own {E : sv_E} {c : Nat} (hc : 64 ≤ c) : E.1 ≤ sv_ad E c := by
  unfold sv_ad
  rw [if_neg (Nat.not_lt.mpr hc)]
  omega
theorem sv_ad_nx {E : sv_E} {s : State} {h : sv_H} {H : Heap} (hP : sv_P E s h H) : sv_ad E (sv_nx h) = H.size := by
  unfold sv_ad
  have h1 := hP.1
  have h2 := hP.2.1
  rw [if_neg (Nat.not_lt.mpr h2)]
  omega
def sv_CF (k : Nat) (C : String) (T : u_T) (N : Nat) (ty : Nat → FieldType) : Prop := vwCl[k]? = some (C, T, N) ∧ k < 13 ∧ (∀ w ∈ u_ws C T N, w ∈ sv_T) ∧ (∀ j, j < N → parseFieldDescriptor (T j).2.2.1 = some (ty j)) ∧ (∀ a, a < N → ∀ b, b < N → a ≠ b → (T a).2.1 ≠ (T b).2.1) ∧ (∀ j, j < N → (T j).1 = C) ∧ sv_tyX k = ty
theorem sv_P.obj {E : sv_E} {s : State} {h : sv_H} {H : Heap} (hP : sv_P E s h H) {c k : Nat} (hkd : sv_kd h c = k) (hk : k < 13) (hlt : c < sv_nx h) : sv_obj E h H c k := by
  have h1 := hP.2.2.1 c hlt
  unfold sv_cell at h1
  rw [hkd, if_pos hk] at h1
  exact h1
theorem sv_P.arr {E : sv_E} {s : State} {h : sv_H} {H : Heap} (hP : sv_P E s h H) {c k : Nat} (hkd : sv_kd h c = k) (hk : ¬ k < 13) (hk2 : k < 28) (hlt : c < sv_nx h) : sv_arr E s h H c (sv_aty k) := by
  have h1 := hP.2.2.1 c hlt
  unfold sv_cell at h1
  rw [hkd, if_neg hk, if_pos hk2] at h1
  exact h1
theorem sv_fld {E : sv_E} {s : State} {h : sv_H} {H : Heap} {args : Array Value} {c k : Nat} {C : String} {T : u_T} {N : Nat} {ty : Nat → FieldType} (hts : ∀ w ∈ sv_T, w.before args s = true) (hK : sv_K E s) (hP : sv_P E s h H) (hcf : sv_CF k C T N ty) (hkd : sv_kd h c = k) (hlt : c < sv_nx h) {j : Nat} (hj : j < N) :
    ∃ (cf : ClassId) (kf : Class) (fi : Nat) (f : Field) (cell : Cell), s.fieldFound? C (T j).2.1 (T j).2.2.1 = some (cf, kf, fi, f) ∧ f.isStatic = false ∧ H[sv_ad E c]? = some cell ∧ cell.vm = .none ∧ cell.cls = E.2.1.1 k ∧ f.slot = E.2.1.2 k j ∧ (∀ i, i < N → cell.slots[E.2.1.2 k i]? = some (sv_fv E h c (ty i) i)) := by
  obtain ⟨c1, c2, c3, c4, c5, c6, c7⟩ := hcf
  obtain ⟨q, hq, cell, q1, q2, q3, q4⟩ := hP.obj hkd c2 hlt
  cases c1.symm.trans hq
  obtain ⟨hS, hfc, kC, hkC, hkind⟩ := hK.2.1 k _ c1
  obtain ⟨cf, kf, fi, f, hi, hsl⟩ := hS j hj
  refine ⟨cf, kf, fi, f, cell, by rw [← c6 j hj]; exact hi, (u_facts hfc hkC (u_lays hts c3 hj) hi).1, q1, q3, q2, hsl, fun i hi => ?_⟩
  rw [q4 i hi, c7]
section SV3
variable {α : Type} {E : sv_E} {M : sv_M} {d pc : Nat} {φ : α → Option Value × sv_H} {lv : List (Nat × Value)} {st : List Value} {h : sv_H} {o o1 o2 : Option α}
/-- a step over one picture -/
theorem sv_rd {pc' : Nat} {st' : List Value}
    (f : ∀ {p : Program} {l : Launch} {e : Env} {R : Room} {s : State} {m : MethodId} {args : Array Value} {below : List Frame} {meth : Method} {c : Code} {H : Heap} {locs : List Loc} {cells slots : Nat} {Z : State → Prop} {ls : Array Slot}, sv_Fx M p s m args meth c → sv_K E s → sv_P E s h H →
      W p l e R s m args below meth c H locs cells slots Z (F0 m pc' ls st') → W p l e R s m args below meth c H locs cells slots Z (F0 m pc ls st))
    (k : sv_V E M d φ pc' lv st' h o) : sv_V E M d φ pc lv st h o := by
  intro a ho
  obtain ⟨hm, k⟩ := k a ho
  refine ⟨hm, ?_⟩
  intro p l e R s m args below meth c H locs cells slots Z ls c0 s0 Fx hK hP hS hB hR hc hs hl hE
  exact f Fx hK hP (k p l e R s m args below meth c H locs cells slots Z ls c0 s0 Fx hK hP hS hB hR hc hs hl hE)
theorem sv_getf {index : Nat} {C : String} {T : u_T} {N : Nat} {ty : Nat → FieldType} {kk c : Nat} {v : Value} (j : Nat) (hd : decode M.2.1 pc = .ok (.getfield index, 3)) (hcf : sv_CF kk C T N ty) (hj : j < N) (hln : Cond.fieldLink M.1.cls index C (T j).2.1 (T j).2.2.1 ∈ sv_T) (hkd : sv_kd h c = kk) (hlt : c < sv_nx h) (hv : sv_fv E h c (ty j) j = v) (k : sv_V E M d φ (pc + 3) lv (v :: st) h o) : sv_V E M d φ pc lv (sv_r E c :: st) h o := by
  refine sv_rd (fun Fx hK hP kk2 => ?_) k
  obtain ⟨hx, hb, hml, hown, hts, -⟩ := Fx
  obtain ⟨cf, kf, fi, f, cell, a1, a2, a3, a4, a5, a6, a7⟩ := sv_fld hts hK hP hcf hkd hlt hj
  exact W.getf hx hb hown (hts _ hln) a1 a2 a3 (by rw [a4]; exact fun h => by cases h) (v := v) (by rw [a6, a7 j hj, hv]) rfl rfl hd kk2
theorem sv_getN {index : Nat} {C host : String} {T : u_T} {N : Nat} {ty : Nat → FieldType} {kk c : Nat} {v : Value} (j : Nat) (hd : decode M.2.1 pc = .ok (.getfield index, 3)) (hcf : sv_CF kk C T N ty) (hj : j < N) (hln : Cond.fieldLinkNest M.1.cls index C (T j).2.1 (T j).2.2.1 host ∈ sv_N) (hkd : sv_kd h c = kk) (hlt : c < sv_nx h) (hv : sv_fv E h c (ty j) j = v) (k : sv_V E M d φ (pc + 3) lv (v :: st) h o) : sv_V E M d φ pc lv (sv_r E c :: st) h o := by
  refine sv_rd (fun Fx hK hP kk2 => ?_) k
  obtain ⟨hx, hb, hml, hown, hts, -⟩ := Fx
  obtain ⟨cf, kf, fi, f, cell, a1, a2, a3, a4, a5, a6, a7⟩ := sv_fld hts hK hP hcf hkd hlt hj
  exact va_Wgetf hx hb hown (va_Nw.use rfl (hK.2.2.1 _ hln)) a1 a2 a3 (by rw [a4]; exact fun h => by cases h) (v := v) (by rw [a6, a7 j hj, hv]) rfl rfl hd kk2
theorem sv_gets {index : Nat} {C n ds : String} {v : Value} (hq : (C, n, ds, v) ∈ sv_sta E) (hd : decode M.2.1 pc = .ok (.getstatic index, 3)) (hln : Cond.fieldLink M.1.cls index C n ds ∈ sv_T) (k : sv_V E M d φ (pc + 3) lv (v :: st) h o) : sv_V E M d φ pc lv st h o := by
  refine sv_rd (fun Fx hK hP kk2 => ?_) k
  obtain ⟨hx, hb, hml, hown, hts, -⟩ := Fx
  obtain ⟨cf, kf, fi, f, a, cell, h1, h2, h3, h4, h5, h6, h7, h8⟩ := hP.2.2.2 _ hq
  exact W.gets hx hb hown (hts _ hln) h1 h2 h3 h4 h5 (fun e => by rw [e] at h6; cases h6) h7 rfl hd kk2
theorem sv_alen {c kk : Nat} {v : Int32} (hd : decode M.2.1 pc = .ok (.arraylength, 1)) (hkd : sv_kd h c = kk) (hk : ¬ kk < 13) (hk2 : kk < 28) (hlt : c < sv_nx h) (hv : Int32.ofNat (sv_ln h c) = v) (k : sv_V E M d φ (pc + 1) lv (.int v :: st) h o) : sv_V E M d φ pc lv (sv_r E c :: st) h o := by
  refine sv_rd (fun Fx hK hP kk2 => ?_) k
  obtain ⟨hx, hb, -⟩ := Fx
  obtain ⟨cell, a1, a2, a3, a4, a5, a6, a7⟩ := hP.arr hkd hk hk2 hlt
  exact W.alen (n := v) hx hb a1 a2 (a4.2.trans hv) rfl rfl hd kk2
theorem sv_iald {c : Nat} {i : Int32} (hd : decode M.2.1 pc = .ok (.iaload, 1)) (hkd : sv_kd h c = 20) (hlt : c < sv_nx h) (hin : vp_in i (sv_ln h c)) (k : sv_V E M d φ (pc + 1) lv (.int (h.1 c i.toNatClampNeg) :: st) h o) : sv_V E M d φ pc lv (.int i :: sv_r E c :: st) h o := by
  refine sv_rd (fun Fx hK hP kk2 => ?_) k
  obtain ⟨hx, hb, -⟩ := Fx
  obtain ⟨cell, a1, a2, a3, a4, a5, a6, a7⟩ := hP.arr hkd (by decide) (by decide) hlt
  exact W.iald hx hb a1 a2 a3 (fun q => hin (q.imp id (fun z => Nat.le_trans a4.1 z))) (a5 _ (Nat.not_le.mp fun q => hin (Or.inr q))) rfl rfl hd kk2
theorem sv_lald {c : Nat} {i : Int32} (hd : decode M.2.1 pc = .ok (.laload, 1)) (hkd : sv_kd h c = 21) (hlt : c < sv_nx h) (hin : vp_in i (sv_ln h c)) (k : sv_V E M d φ (pc + 1) lv (.long (h.2.1 c i.toNatClampNeg) :: st) h o) : sv_V E M d φ pc lv (.int i :: sv_r E c :: st) h o := by
  refine sv_rd (fun Fx hK hP kk2 => ?_) k
  obtain ⟨hx, hb, -⟩ := Fx
  obtain ⟨cell, a1, a2, a3, a4, a5, a6, a7⟩ := hP.arr hkd (by decide) (by decide) hlt
  exact W.lald hx hb a1 a2 a3 (fun q => hin (q.imp id (fun z => Nat.le_trans a4.1 z))) (a5 _ (Nat.not_le.mp fun q => hin (Or.inr q))) rfl rfl hd kk2
theorem sv_bald {c : Nat} {i : Int32} (hd : decode M.2.1 pc = .ok (.baload, 1)) (hkd : sv_kd h c = 22) (hlt : c < sv_nx h) (hin : vp_in i (sv_ln h c)) (k : sv_V E M d φ (pc + 1) lv (.int (h.1 c i.toNatClampNeg) :: st) h o) : sv_V E M d φ pc lv (.int i :: sv_r E c :: st) h o := by
  refine sv_rd (fun Fx hK hP kk2 => ?_) k
  obtain ⟨hx, hb, -⟩ := Fx
  obtain ⟨cell, a1, a2, a3, a4, a5, a6, a7⟩ := hP.arr hkd (by decide) (by decide) hlt
  exact W.bald hx hb a1 a2 a3 (fun q => hin (q.imp id (fun z => Nat.le_trans a4.1 z))) (a5 _ (Nat.not_le.mp fun q => hin (Or.inr q))) rfl rfl hd kk2
theorem sv_zald {c : Nat} {i : Int32} (hd : decode M.2.1 pc = .ok (.baload, 1)) (hkd : sv_kd h c = 23) (hlt : c < sv_nx h) (hin : vp_in i (sv_ln h c)) (k : sv_V E M d φ (pc + 1) lv (.int (h.1 c i.toNatClampNeg) :: st) h o) : sv_V E M d φ pc lv (.int i :: sv_r E c :: st) h o := by
  refine sv_rd (fun Fx hK hP kk2 => ?_) k
  obtain ⟨hx, hb, -⟩ := Fx
  obtain ⟨cell, a1, a2, a3, a4, a5, a6, a7⟩ := hP.arr hkd (by decide) (by decide) hlt
  exact W.zald hx hb a1 a2 a3 (fun q => hin (q.imp id (fun z => Nat.le_trans a4.1 z))) (a5 _ (Nat.not_le.mp fun q => hin (Or.inr q))) rfl rfl hd kk2
theorem sv_aald {c kk : Nat} {i : Int32} {v : Value} (hd : decode M.2.1 pc = .ok (.aaload, 1)) (hkd : sv_kd h c = kk) (hk : ¬ kk < 24) (hk2 : kk < 28) (hrt : (sv_aty kk).isReference = true) (hlt : c < sv_nx h) (hin : vp_in i (sv_ln h c)) (hv : sv_fv E h c (sv_aty kk) i.toNatClampNeg = v) (k : sv_V E M d φ (pc + 1) lv (v :: st) h o) : sv_V E M d φ pc lv (.int i :: sv_r E c :: st) h o := by
  refine sv_rd (fun Fx hK hP kk2 => ?_) k
  obtain ⟨hx, hb, -⟩ := Fx
  obtain ⟨cell, a1, a2, a3, a4, a5, a6, a7⟩ := hP.arr hkd (by omega) hk2 hlt
  exact W.aald hx hb a1 a2 hrt a3 (fun q => hin (q.imp id (fun z => Nat.le_trans a4.1 z))) (by rw [a5 _ (Nat.not_le.mp fun q => hin (Or.inr q)), hv]) rfl rfl hd kk2
end SV3
/-- two pictures that differ at one cell alone -/
def sv_same (h h1 : sv_H) (c : Nat) : Prop := sv_ln h1 = sv_ln h ∧ sv_kd h1 = sv_kd h ∧ sv_nx h1 = sv_nx h ∧ sv_sl h1 = sv_sl h ∧ ∀ a, a ≠ c → ∀ j, h1.1 a j = h.1 a j ∧ h1.2.1 a j = h.2.1 a j ∧ h1.2.2.1 a j = h.2.2.1 a j
theorem sv_fv_eq {E : sv_E} {h h1 : sv_H} {c j : Nat} (e1 : h1.1 c j = h.1 c j) (e2 : h1.2.1 c j = h.2.1 c j) (e3 : h1.2.2.1 c j = h.2.2.1 c j) (ty : FieldType) : sv_fv E h1 c ty j = sv_fv E h c ty j := by
  unfold sv_fv
  cases ty <;> simp only [e1, e2, e3]
theorem sv_cell.kept {E : sv_E} {s : State} {h h1 : sv_H} {H H1 : Heap} {c : Nat} (hc : sv_cell E s h H c) (hq : H1[sv_ad E c]? = H[sv_ad E c]?) (hl : sv_ln h1 c = sv_ln h c) (hk : sv_kd h1 c = sv_kd h c) (hv : ∀ j, h1.1 c j = h.1 c j ∧ h1.2.1 c j = h.2.1 c j ∧ h1.2.2.1 c j = h.2.2.1 c j) : sv_cell E s h1 H1 c := by
  unfold sv_cell at hc ⊢
  rw [hk]
  split
  · next h1' =>
    rw [if_pos h1'] at hc
    obtain ⟨q, hq1, hob⟩ := hc
    exact ⟨q, hq1, (hob.kept hq).to (fun j _ => (sv_fv_eq (hv j).1 (hv j).2.1 (hv j).2.2 _).symm)⟩
  · next h1' =>
    rw [if_neg h1'] at hc
    split
    · next h2' =>
      rw [if_pos h2'] at hc
      obtain ⟨cell, a1, a2, a3, a4, a5, a6, a7⟩ := hc
      exact ⟨cell, hq.trans a1, a2, a3, by rw [hl]; exact a4, fun j hj => by rw [sv_fv_eq (hv j).1 (hv j).2.1 (hv j).2.2]; exact a5 j (by rw [← hl]; exact hj), fun h => by obtain ⟨cA, g1, g2⟩ := a6 h; exact ⟨cA, by rw [hl, g1]; congr 1; funext j; exact (sv_fv_eq (hv j).1 (hv j).2.1 (hv j).2.2 _).symm, g2⟩, a7⟩
    · next h2' =>
      rw [if_neg h2'] at hc
      split
      · next h3' =>
        rw [if_pos h3'] at hc
        obtain ⟨⟨e1, e2, e3⟩, ⟨f1, f2, f3, f4, f5, f6, f7, f8, f9⟩, g1, g2, g3, g4, g5, g6, g7, g8, g9⟩ := hc
        exact ⟨⟨e1, hq.trans e2, e3⟩, ⟨f1, f2, f3, f4, f5, f6, f7, hq.trans f8, by rw [(hv 0).2.2]; exact f9⟩, g1, g2, g3, g4, g5, g6, g7, hq.trans g8, by rw [(hv 1).1]; exact g9⟩
      · trivial
theorem sv_P.put {E : sv_E} {s : State} {h h1 : sv_H} {H H1 : Heap} {c : Nat} (hP : sv_P E s h H) (hok : ∀ c, c < 64 → E.2.2 c < E.1) (hc : 64 ≤ c) (hs : sv_same h h1 c) (hz : H1.size = H.size) (ho : ∀ q : Nat, q ≠ sv_ad E c → H1[q]? = H[q]?) (hcell : sv_cell E s h1 H1 c) : sv_P E s h1 H1 := by
  obtain ⟨s1, s2, s3, s4, s5⟩ := hs
  refine ⟨by rw [hz, s3]; exact hP.1, by rw [s3]; exact hP.2.1, fun c' hc' => ?_, fun q hq => (hP.2.2.2 q hq).kept (fun a _ ha => ho a (fun e => ha (by rw [e]; exact sv_ad_own hc)))⟩
  by_cases e : c' = c
  · rw [e]; exact hcell
  · exact (hP.2.2.1 c' (by rw [← s3]; exact hc')).kept (ho _ (sv_ad_ne hok hc e)) (by rw [s1]) (by rw [s2]) (s5 c' e)
section SV4
variable {α : Type} {E : sv_E} {M : sv_M} {d pc : Nat} {φ : α → Option Value × sv_H} {lv : List (Nat × Value)} {st : List Value} {h h1 : sv_H} {o o1 o2 : Option α}
/-- a step that writes one cell -/
theorem sv_wr {pc' c : Nat} {st' : List Value} (hc64 : 64 ≤ c) (hs : sv_same h h1 c)
    (f : ∀ {p : Program} {l : Launch} {e : Env} {R : Room} {s : State} {m : MethodId} {args : Array Value} {below : List Frame} {meth : Method} {cd : Code} {H : Heap} {locs : List Loc} {cells slots : Nat} {Z : State → Prop} {ls : Array Slot}, sv_Fx M p s m args meth cd → sv_K E s → sv_P E s h H →
      (∀ (H1 : Heap) (i : Nat), H1.size = H.size → (∀ q : Nat, q ≠ sv_ad E c → H1[q]? = H[q]?) → sv_cell E s h1 H1 c → W p l e R s m args below meth cd H1 (locs ++ [⟨sv_ad E c, i⟩]) cells slots Z (F0 m pc' ls st')) → W p l e R s m args below meth cd H locs cells slots Z (F0 m pc ls st))
    (k : sv_V E M d φ pc' lv st' h1 o) : sv_V E M d φ pc lv st h o := by
  intro a ho
  obtain ⟨hm, k⟩ := k a ho
  rw [hs.2.2.1, hs.2.2.2.1] at hm
  refine ⟨hm, ?_⟩
  intro p l e R s m args below meth cd H locs cells slots Z ls c0 s0 Fx hK hP hS hB hR hc hs0 hl hE
  refine f Fx hK hP (fun H1 i hz hq hcell => ?_)
  exact k p l e R s m args below meth cd H1 _ cells slots Z ls c0 s0 Fx hK (hP.put hK.1 hc64 hs hz hq hcell) (hS.put hz hq (sv_ad_own hc64)) hB hR (by rw [hs.2.2.1]; exact hc) (by rw [hs.2.2.2.1]; exact hs0) hl hE
theorem sv_put_cell {s : State} {args : Array Value} {H1 : Heap} {C : String} {T : u_T} {N : Nat} {ty : Nat → FieldType} {kk c j : Nat} {v : Value} {f : Field} {cell : Cell} (hts : ∀ w ∈ sv_T, w.before args s = true) (hK : sv_K E s) (hcf : sv_CF kk C T N ty) (hkd : sv_kd h1 c = kk) (hj : j < N) (a5 : cell.cls = E.2.1.1 kk) (a4 : cell.vm = .none) (a6 : f.slot = E.2.1.2 kk j) (a7 : ∀ i, i < N → cell.slots[E.2.1.2 kk i]? = some (sv_fv E h c (ty i) i)) (hv1 : sv_fv E h1 c (ty j) j = v) (hv2 : ∀ i, i < N → i ≠ j → sv_fv E h1 c (ty i) i = sv_fv E h c (ty i) i) (hH : H1[sv_ad E c]? = some (cell.setSlot f.slot v)) : sv_cell E s h1 H1 c := by
  obtain ⟨c1, c2, c3, c4, c5, c6, c7⟩ := hcf
  have hap : ∀ x y, x < N → y < N → x ≠ y → E.2.1.2 kk x ≠ E.2.1.2 kk y := by
    intro x y hx hy hne
    obtain ⟨hS, -⟩ := hK.2.1 kk _ c1
    obtain ⟨_, _, _, fa, hia, ea⟩ := hS x hx
    obtain ⟨_, _, _, fb, hib, eb⟩ := hS y hy
    rw [← ea, ← eb]
    refine u_apart (u_lays hts c3 hx) (u_lays hts c3 hy) hia hib ?_
    rw [(State.fieldFound?_type hia (c4 x hx)).1, (State.fieldFound?_type hib (c4 y hy)).1]
    exact c5 x hx y hy hne
  unfold sv_cell
  rw [hkd, if_pos c2]
  refine ⟨_, c1, _, hH, a5, a4, fun i hi => ?_⟩
  rw [a6, t_set a7 hap hj v i hi, c7]
  unfold updV
  by_cases e : i = j
  · rw [if_pos e]; subst e; exact congrArg some hv1.symm
  · rw [if_neg e]; exact congrArg some (hv2 i hi e).symm
theorem sv_putf {index : Nat} {C : String} {T : u_T} {N : Nat} {ty : Nat → FieldType} {kk c : Nat} {v : Value} (j : Nat) (hd : decode M.2.1 pc = .ok (.putfield index, 3)) (hcf : sv_CF kk C T N ty) (hj : j < N) (hfin : (T j).2.2.2 = false) (hln : Cond.fieldLink M.1.cls index C (T j).2.1 (T j).2.2.1 ∈ sv_T) (hkd : sv_kd h c = kk) (hc64 : 64 ≤ c) (hlt : c < sv_nx h) (hn : narrow (ty j) v = v) (hfit : fits (ty j) v = true)
    (hs : sv_same h h1 c) (hv1 : sv_fv E h1 c (ty j) j = v) (hv2 : ∀ i, i < N → i ≠ j → sv_fv E h1 c (ty i) i = sv_fv E h c (ty i) i) (k : sv_V E M d φ (pc + 3) lv st h1 o) : sv_V E M d φ pc lv (v :: sv_r E c :: st) h o := by
  refine sv_wr hc64 hs (fun {p l e R s m args below meth cd H locs cells slots Z ls} Fx hK hP kk2 => ?_) k
  obtain ⟨hx, hb, hml, hown, hts, -⟩ := Fx
  obtain ⟨cf, kf, fi, f, cell, a1, a2, a3, a4, a5, a6, a7⟩ := sv_fld hts hK hP hcf hkd hlt hj
  obtain ⟨c1, c2, c3, c4, c5, c6, c7⟩ := id hcf
  obtain ⟨hS, hfc, kC, hkC, hkind⟩ := hK.2.1 kk _ c1
  have hlay := hts _ (c3 _ (u_in_lay hj))
  unfold u_lay at hlay
  rw [if_neg (by rw [hfin]; decide), c6 j hj] at hlay
  have h6 := u_store hfc hkC hkind hlay a1 (c4 j hj) hn hfit
  refine W.putK hx hb (f := f) ⟨hown, hts _ hln, ⟨_, _, _, a1⟩, a2⟩ (by rw [a5]; exact h6) a3 a4 (by rw [a6]; exact k2_hasslot (a7 j hj)) rfl rfl hd fun H' e1 e2 e3 => ?_
  exact kk2 H' _ e2 e3 (sv_put_cell hts hK hcf (by rw [hs.2.1]; exact hkd) hj a5 a4 a6 a7 hv1 hv2 e1)
theorem sv_putN {index : Nat} {C host : String} {T : u_T} {N : Nat} {ty : Nat → FieldType} {kk c : Nat} {v : Value} (j : Nat) (hd : decode M.2.1 pc = .ok (.putfield index, 3)) (hcf : sv_CF kk C T N ty) (hj : j < N) (hfin : (T j).2.2.2 = false) (hln : Cond.fieldLinkNest M.1.cls index C (T j).2.1 (T j).2.2.1 host ∈ sv_N) (hkd : sv_kd h c = kk) (hc64 : 64 ≤ c) (hlt : c < sv_nx h) (hn : narrow (ty j) v = v) (hfit : fits (ty j) v = true)
    (hs : sv_same h h1 c) (hv1 : sv_fv E h1 c (ty j) j = v) (hv2 : ∀ i, i < N → i ≠ j → sv_fv E h1 c (ty i) i = sv_fv E h c (ty i) i) (k : sv_V E M d φ (pc + 3) lv st h1 o) : sv_V E M d φ pc lv (v :: sv_r E c :: st) h o := by
  refine sv_wr hc64 hs (fun {p l e R s m args below meth cd H locs cells slots Z ls} Fx hK hP kk2 => ?_) k
  obtain ⟨hx, hb, hml, hown, hts, -⟩ := Fx
  obtain ⟨cf, kf, fi, f, cell, a1, a2, a3, a4, a5, a6, a7⟩ := sv_fld hts hK hP hcf hkd hlt hj
  obtain ⟨c1, c2, c3, c4, c5, c6, c7⟩ := id hcf
  obtain ⟨hS, hfc, kC, hkC, hkind⟩ := hK.2.1 kk _ c1
  have hlay := hts _ (c3 _ (u_in_lay hj))
  unfold u_lay at hlay
  rw [if_neg (by rw [hfin]; decide), c6 j hj] at hlay
  have h6 := u_store hfc hkC hkind hlay a1 (c4 j hj) hn hfit
  refine va_WputK hx hb (f := f) hown (va_Nw.use rfl (hK.2.2.1 _ hln)) a1 a2 (by rw [a5]; exact h6) a3 a4 (by rw [a6]; exact k2_hasslot (a7 j hj)) rfl rfl hd fun H' e1 e2 e3 => ?_
  exact kk2 H' _ e2 e3 (sv_put_cell hts hK hcf (by rw [hs.2.1]; exact hkd) hj a5 a4 a6 a7 hv1 hv2 e1)
theorem sv_putF {index : Nat} {C : String} {T : u_T} {N : Nat} {ty : Nat → FieldType} {kk c : Nat} {v : Value} (j : Nat) (hd : decode M.2.1 pc = .ok (.putfield index, 3)) (hcf : sv_CF kk C T N ty) (hj : j < N) (hfin : (T j).2.2.2 = true) (hln : Cond.fieldLink M.1.cls index C (T j).2.1 (T j).2.2.1 ∈ sv_T) (hin : M.1.name = "<init>") (hC : C = M.1.cls) (hkd : sv_kd h c = kk) (hc64 : 64 ≤ c) (hlt : c < sv_nx h) (hn : narrow (ty j) v = v) (hfit : fits (ty j) v = true)
    (hs : sv_same h h1 c) (hv1 : sv_fv E h1 c (ty j) j = v) (hv2 : ∀ i, i < N → i ≠ j → sv_fv E h1 c (ty i) i = sv_fv E h c (ty i) i) (k : sv_V E M d φ (pc + 3) lv st h1 o) : sv_V E M d φ pc lv (v :: sv_r E c :: st) h o := by
  refine sv_wr hc64 hs (fun {p l e R s m args below meth cd H locs cells slots Z ls} Fx hK hP kk2 => ?_) k
  obtain ⟨hx, hb, hml, hown, hts, -, -, hnm⟩ := Fx
  obtain ⟨cf, kf, fi, f, cell, a1, a2, a3, a4, a5, a6, a7⟩ := sv_fld hts hK hP hcf hkd hlt hj
  obtain ⟨c1, c2, c3, c4, c5, c6, c7⟩ := id hcf
  obtain ⟨hS, hfc, kC, hkC, hkind⟩ := hK.2.1 kk _ c1
  have hlay := hts _ (c3 _ (u_in_lay hj))
  unfold u_lay at hlay
  rw [if_pos hfin, c6 j hj] at hlay
  have hcf2 : m.cls = cf := by
    obtain ⟨_, _, c', _, _, _, -, -, hf', -, -, -, hown2, -⟩ := Cond.laysFinal_spec hlay
    have e1 : c' = cf := by have := a1.symm.trans hf'; simp at this; exact this.1.symm
    rw [hC] at hown2
    rw [← e1]; exact Option.some.inj (hown.symm.trans hown2)
  have h6 := u_fits hfc hkC hkind (Or.inr hlay) a1 (c4 j hj) hn hfit
  refine W.putFinK hx hb hown (hts _ hln) a1 a2 hcf2 (hnm.trans hin) (by rw [a5]; exact h6) a3 a4 (by rw [a6]; exact k2_hasslot (a7 j hj)) rfl rfl hd fun H' e1 e2 e3 => ?_
  exact kk2 H' _ e2 e3 (sv_put_cell hts hK hcf (by rw [hs.2.1]; exact hkd) hj a5 a4 a6 a7 hv1 hv2 e1)
theorem sv_ast_cell {s : State} {H1 : Heap} {c kk i : Nat} {v : Value} {cell : Cell} (hc64 : 64 ≤ c) (hkd : sv_kd h1 c = kk) (hk : ¬ kk < 13) (hk2 : kk < 28) (hln : sv_ln h1 c = sv_ln h c) (ha : s.isArrayOf cell (sv_aty kk)) (hu : cell.vm ≠ .unknown) (hz0 : sv_ln h c ≤ cell.slots.size ∧ cell.slots.size.toInt32 = Int32.ofNat (sv_ln h c)) (h5 : ∀ j, j < sv_ln h c → cell.slots[j]? = some (sv_fv E h c (sv_aty kk) j)) (h6 : 64 ≤ c → ∃ cA : ClassId, cell = arrV cA (sv_ln h c) (fun j => sv_fv E h c (sv_aty kk) j) ∧ s.vm.findClass ("[" ++ (sv_aty kk).toString) = some cA) (h7 : sv_ra s cell (sv_aty kk)) (hv1 : sv_fv E h1 c (sv_aty kk) i = v) (hv2 : ∀ j, j ≠ i → sv_fv E h1 c (sv_aty kk) j = sv_fv E h c (sv_aty kk) j) (hH : H1[sv_ad E c]? = some (cell.setSlot i v)) : sv_cell E s h1 H1 c := by
  unfold sv_cell
  rw [hkd, if_neg hk, if_pos hk2]
  obtain ⟨cA, hA1, hA2⟩ := h6 hc64
  have hz : cell.slots.size = sv_ln h c := by rw [hA1, arrV_size]
  have hz2 : (cell.setSlot i v).slots.size = cell.slots.size := by simp [Cell.setSlot]
  refine ⟨_, hH, ha, hu, by rw [hz2, hln]; exact hz0, fun j hj => ?_, fun _ => ⟨cA, ?_, hA2⟩, ?_⟩
  · rw [hln] at hj
    by_cases e : j = i
    · subst e
      simp [Cell.setSlot, hz, hj, hv1]
    · rw [hv2 j e, ← h5 j hj]
      simp [Cell.setSlot, Array.getElem?_setIfInBounds, Ne.symm e]
  · rw [hA1, arrV_store, hln]
    congr 1
    funext j
    unfold updV
    by_cases e : j = i
    · rw [if_pos e]; subst e; exact hv1.symm
    · rw [if_neg e]; exact (hv2 j e).symm
  · exact h7
theorem sv_iast {c : Nat} {i x : Int32} (hd : decode M.2.1 pc = .ok (.iastore, 1)) (hkd : sv_kd h c = 20) (hc64 : 64 ≤ c) (hlt : c < sv_nx h) (hin : vp_in i (sv_ln h c)) (k : sv_V E M d φ (pc + 1) lv st (sv_setI h c i.toNatClampNeg x) o) : sv_V E M d φ pc lv (.int x :: .int i :: sv_r E c :: st) h o := by
  refine sv_wr hc64 (h1 := sv_setI h c i.toNatClampNeg x) ⟨rfl, rfl, rfl, rfl, fun a ha j => ⟨by simp [sv_setI, sv_up, ha], rfl, rfl⟩⟩ (fun {p l e R s m args below meth cd H locs cells slots Z ls} Fx hK hP kk2 => ?_) k
  obtain ⟨hx, hb, -⟩ := Fx
  obtain ⟨cell, a1, a2, a3, a4, a5, a6, a7⟩ := hP.arr hkd (by decide) (by decide) hlt
  refine W.iast hx hb a1 a2 a3 (fun q => hin (q.imp id (fun z => Nat.le_trans a4.1 z))) rfl rfl hd fun H' e1 e2 e3 => ?_
  exact kk2 H' _ e2 e3 (sv_ast_cell (h := h) hc64 (kk := 20) hkd (by decide) (by decide) rfl a2 a3 a4 a5 a6 a7 (by simp [sv_fv, sv_aty, sv_setI, sv_up]) (fun j hj => by simp [sv_fv, sv_aty, sv_setI, sv_up, hj]) e1)
theorem sv_last {c : Nat} {i : Int32} {x : Int64} (hd : decode M.2.1 pc = .ok (.lastore, 1)) (hkd : sv_kd h c = 21) (hc64 : 64 ≤ c) (hlt : c < sv_nx h) (hin : vp_in i (sv_ln h c)) (k : sv_V E M d φ (pc + 1) lv st (sv_setL h c i.toNatClampNeg x) o) : sv_V E M d φ pc lv (.long x :: .int i :: sv_r E c :: st) h o := by
  refine sv_wr hc64 (h1 := sv_setL h c i.toNatClampNeg x) ⟨rfl, rfl, rfl, rfl, fun a ha j => ⟨rfl, by simp [sv_setL, sv_up, ha], rfl⟩⟩ (fun {p l e R s m args below meth cd H locs cells slots Z ls} Fx hK hP kk2 => ?_) k
  obtain ⟨hx, hb, -⟩ := Fx
  obtain ⟨cell, a1, a2, a3, a4, a5, a6, a7⟩ := hP.arr hkd (by decide) (by decide) hlt
  refine W.last hx hb a1 a2 a3 (fun q => hin (q.imp id (fun z => Nat.le_trans a4.1 z))) rfl rfl hd fun H' e1 e2 e3 => ?_
  exact kk2 H' _ e2 e3 (sv_ast_cell (h := h) hc64 (kk := 21) hkd (by decide) (by decide) rfl a2 a3 a4 a5 a6 a7 (by simp [sv_fv, sv_aty, sv_setL, sv_up]) (fun j hj => by simp [sv_fv, sv_aty, sv_setL, sv_up, hj]) e1)
theorem sv_bast {c : Nat} {i x : Int32} (hd : decode M.2.1 pc = .ok (.bastore, 1)) (hkd : sv_kd h c = 22) (hc64 : 64 ≤ c) (hlt : c < sv_nx h) (hin : vp_in i (sv_ln h c)) (k : sv_V E M d φ (pc + 1) lv st (sv_setI h c i.toNatClampNeg x.toInt8.toInt32) o) : sv_V E M d φ pc lv (.int x :: .int i :: sv_r E c :: st) h o := by
  refine sv_wr hc64 (h1 := sv_setI h c i.toNatClampNeg x.toInt8.toInt32) ⟨rfl, rfl, rfl, rfl, fun a ha j => ⟨by simp [sv_setI, sv_up, ha], rfl, rfl⟩⟩ (fun {p l e R s m args below meth cd H locs cells slots Z ls} Fx hK hP kk2 => ?_) k
  obtain ⟨hx, hb, -⟩ := Fx
  obtain ⟨cell, a1, a2, a3, a4, a5, a6, a7⟩ := hP.arr hkd (by decide) (by decide) hlt
  refine W.bast hx hb a1 a2 a3 (fun q => hin (q.imp id (fun z => Nat.le_trans a4.1 z))) rfl rfl hd fun H' e1 e2 e3 => ?_
  exact kk2 H' _ e2 e3 (sv_ast_cell (h := h) hc64 (kk := 22) hkd (by decide) (by decide) rfl a2 a3 a4 a5 a6 a7 (by simp [sv_fv, sv_aty, sv_setI, sv_up, narrow]) (fun j hj => by simp [sv_fv, sv_aty, sv_setI, sv_up, hj]) e1)
theorem sv_zast {c : Nat} {i x : Int32} (hd : decode M.2.1 pc = .ok (.bastore, 1)) (hkd : sv_kd h c = 23) (hc64 : 64 ≤ c) (hlt : c < sv_nx h) (hin : vp_in i (sv_ln h c)) (k : sv_V E M d φ (pc + 1) lv st (sv_setI h c i.toNatClampNeg (x &&& 1)) o) : sv_V E M d φ pc lv (.int x :: .int i :: sv_r E c :: st) h o := by
  refine sv_wr hc64 (h1 := sv_setI h c i.toNatClampNeg (x &&& 1)) ⟨rfl, rfl, rfl, rfl, fun a ha j => ⟨by simp [sv_setI, sv_up, ha], rfl, rfl⟩⟩ (fun {p l e R s m args below meth cd H locs cells slots Z ls} Fx hK hP kk2 => ?_) k
  obtain ⟨hx, hb, -⟩ := Fx
  obtain ⟨cell, a1, a2, a3, a4, a5, a6, a7⟩ := hP.arr hkd (by decide) (by decide) hlt
  refine W.zast hx hb a1 a2 a3 (fun q => hin (q.imp id (fun z => Nat.le_trans a4.1 z))) rfl rfl hd fun H' e1 e2 e3 => ?_
  exact kk2 H' _ e2 e3 (sv_ast_cell (h := h) hc64 (kk := 23) hkd (by decide) (by decide) rfl a2 a3 a4 a5 a6 a7 (by simp [sv_fv, sv_aty, sv_setI, sv_up, narrow]) (fun j hj => by simp [sv_fv, sv_aty, sv_setI, sv_up, hj]) e1)
end SV4
