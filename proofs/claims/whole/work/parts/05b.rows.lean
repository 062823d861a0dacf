/-! references stored into rows; System.arraycopy -/
section SV7
variable {α : Type} {E : sv_E} {M : sv_M} {d pc : Nat} {φ : α → Option Value × sv_H} {lv : List (Nat × Value)} {st : List Value} {h h1 : sv_H} {o o1 o2 : Option α}
theorem sv_aast {c v kk ci : Nat} {C : String} {T : u_T} {N : Nat} {ty : Nat → FieldType} {i : Int32} (hd : decode M.2.1 pc = .ok (.aastore, 1)) (hkd : sv_kd h c = kk) (hk : ¬ kk < 13) (hk2 : kk < 28) (hty : sv_aty kk = .object C) (hc64 : 64 ≤ c) (hlt : c < sv_nx h) (hin : vp_in i (sv_ln h c)) (hcf : sv_CF ci C T N ty) (hkv : sv_kd h v = ci) (hltv : v < sv_nx h) (k : sv_V E M d φ (pc + 1) lv st (sv_setR h c i.toNatClampNeg (some v)) o) : sv_V E M d φ pc lv (sv_r E v :: .int i :: sv_r E c :: st) h o := by
  refine sv_wr hc64 (h1 := sv_setR h c i.toNatClampNeg (some v)) ⟨rfl, rfl, rfl, rfl, fun a ha j => ⟨rfl, rfl, by simp [sv_setR, sv_up, ha]⟩⟩ (fun {p l e R s m args below meth cd H locs cells slots Z ls} Fx hK hP kk2 => ?_) k
  obtain ⟨hx, hb, -⟩ := Fx
  obtain ⟨cell, a1, a2, a3, a4, a5, a6, a7⟩ := hP.arr hkd hk hk2 hlt
  obtain ⟨q, hq, cv, q1, q2, q3, -⟩ := hP.obj hkv hcf.2.1 hltv
  have hcls := (hK.2.1 ci _ hcf.1).2
  have a7' := a7
  rw [hty] at a7'
  obtain ⟨kA, comp, k1, k2, k3⟩ := a7'
  have hcomp : comp = E.2.1.1 ci := Option.some.inj (k3.symm.trans hcls.1)
  subst hcomp
  obtain ⟨kC, hkC, -⟩ := hcls.2
  have hvm : cell.vm = .none := by obtain ⟨cA, g1, -⟩ := a6 hc64; rw [g1]; rfl
  have hi0 : ¬ i < 0 := fun z => hin (Or.inl z)
  have hi1 : i.toNatClampNeg < sv_ln h c := Nat.not_le.mp fun z => hin (Or.inr z)
  refine W.aast hx hb a1 (fun z hz => by rw [hvm] at hz; cases hz) a3 k1 k2 rfl hkC ⟨hi0, Nat.lt_of_lt_of_le hi1 a4.1⟩ q1 (fun z hz => by rw [q3] at hz; cases hz) (by rw [q2]; exact hkC) (by rw [q2]; exact va_assign hcls) rfl rfl hd fun H' e1 e2 e3 => ?_
  exact kk2 H' _ e2 e3 (sv_ast_cell (h := h) hc64 (kk := kk) hkd hk hk2 rfl a2 a3 a4 a5 a6 a7 (by rw [hty]; simp [sv_fv, sv_setR, sv_up, sv_rf]) (fun j hj => by rw [hty]; simp [sv_fv, sv_setR, sv_up, hj]) e1)
def sv_cpb (sp dp n : Int32) (l0 l1 : Nat) : Bool := decide (¬ sp < 0 ∧ ¬ dp < 0 ∧ ¬ n < 0 ∧ sp.toNatClampNeg + n.toNatClampNeg ≤ l0 ∧ dp.toNatClampNeg + n.toNatClampNeg ≤ l1)
def sv_cpI (f : Nat → Nat → Int32) (c0 c1 sp dp n : Nat) : Nat → Nat → Int32 := fun a j => if a = c1 then va_cpy (f c0) (f c1) sp dp n j else f a j
def sv_cpL (f : Nat → Nat → Int64) (c0 c1 sp dp n : Nat) : Nat → Nat → Int64 := fun a j => if a = c1 then va_cpy (f c0) (f c1) sp dp n j else f a j
theorem sv_rmN {R : Room} {rest : List Value} (h9 : 64 * (d + 1) ≤ R.locals) (hr : (rest.map fun v => v.category).sum ≤ 8) : 2 * 0 + (rest.map fun v => v.category).sum + (nativeFrameWords "java/lang/System" "arraycopy" 5 + 11) ≤ R.locals := by
  have h8 : nativeFrameWords "java/lang/System" "arraycopy" 5 ≤ 20 := by decide +kernel
  omega
theorem sv_nn (z : Int32) (hz : ¬ z < 0) : z.toInt = (z.toNatClampNeg : Int) := by
  have hz0 : (0 : Int) ≤ z.toInt := by
    have := Int32.not_lt.mp hz
    simpa using Int32.le_iff_toInt_le.mp this
  show z.toInt = ((z.toInt.toNat : Nat) : Int)
  omega
theorem sv_copyI {c0 c1 index : Nat} {sp dp n : Int32} {rest : List Value} (hd : decode M.2.1 pc = .ok (.invokestatic index, 3)) (hln : Cond.methodLink M.1.cls index arraycopyName ∈ sv_T) (hnat : Cond.native arraycopyName ∈ sv_T) (hst : Cond.static arraycopyName ∈ sv_T) (hini : Cond.initialized "java/lang/System" ∈ sv_T) (k0 : sv_kd h c0 = 20) (k1 : sv_kd h c1 = 20) (o0 : 64 ≤ c0) (o1 : 64 ≤ c1) (l0 : c0 < sv_nx h) (l1 : c1 < sv_nx h) (hok : sv_cpb sp dp n (sv_ln h c0) (sv_ln h c1) = true) (hrest : (rest.map fun v => v.category).sum ≤ 8)
    (k : sv_V E M (d + 1) φ (pc + 3) lv rest (sv_cpI h.1 c0 c1 sp.toNatClampNeg dp.toNatClampNeg n.toNatClampNeg, h.2) o) : sv_V E M (d + 1) φ pc lv (.int n :: .int dp :: sv_r E c1 :: .int sp :: sv_r E c0 :: rest) h o := by
  obtain ⟨p1, p2, p3, p4, p5⟩ := of_decide_eq_true hok
  intro a ho
  obtain ⟨hm, k⟩ := k a ho
  refine ⟨hm, ?_⟩
  intro p l e R s m args below meth cd H locs cells slots Z ls cc0 s0 Fx hK hP hS hB hR hc hs0 hl hE
  obtain ⟨x0, a1, a2, a3, a4, a5, a6, a7⟩ := hP.arr k0 (by decide) (by decide) l0
  obtain ⟨x1, b1, b2, b3, b4, b5, b6, b7⟩ := hP.arr k1 (by decide) (by decide) l1
  obtain ⟨cA0, ea, -⟩ := a6 o0
  obtain ⟨cA1, eb, bf⟩ := b6 o1
  have av : x0.vm = .none := by rw [ea]; rfl
  have bv : x1.vm = .none := by rw [eb]; rfl
  have az : x0.slots.size = sv_ln h c0 := by rw [ea, arrV_size]
  have bz : x1.slots.size = sv_ln h c1 := by rw [eb, arrV_size]
  have bcl : x1.cls = cA1 := by rw [eb]; rfl
  obtain ⟨-, kA, hkA, cmA, hkkA⟩ := a2
  obtain ⟨-, kB, hkB, cmB, hkkB⟩ := b2
  intro T hT X
  obtain ⟨vm', X', step⟩ := X.arraycopy Fx.1 Fx.2.2.2.1 (Fx.2.2.2.2.1 _ hln) (Fx.2.2.2.2.1 _ hnat) (Fx.2.2.2.2.1 _ hst) (Fx.2.2.2.2.1 _ hini) (src := sv_ad E c0) (dst := sv_ad E c1) (cs := x0) (cd := x1) (srcPos := sp) (destPos := dp) (n := n) (by rw [hT]; exact a1) (by rw [hT]; exact b1)
    (fun _ z => by rw [av] at z; cases z) (fun _ z => by rw [bv] at z; cases z) a3 b3 hkA hkB hkkA hkkB (by decide) p1 p2 p3
    (by rw [sv_nn sp p1, sv_nn n p3, az]; omega) (by rw [sv_nn dp p2, sv_nn n p3, bz]; omega)
    (fun vm₁ _ i hi => by
      have ei : x0.slots.getD (sp.toNatClampNeg + i) .null = Value.int (h.1 c0 (sp.toNatClampNeg + i)) := by
        rw [Array.getD_eq_getD_getElem?, a5 _ (by omega)]
        rfl
      refine ⟨?_, ?_⟩
      · rw [ei]; rfl
      · rw [ei]; exact trivial)
    (g := F0 m pc ls (.int n :: .int dp :: sv_r E c1 :: .int sp :: sv_r E c0 :: rest)) rfl (by rw [Fx.2.2.1]; exact hl.1) (rest := rest) rfl (by rw [Fx.2.1]; exact hd) (by have := hR.1; omega) (sv_rmN hR.2.1 hrest)
  have e1 : copied x0 x1 sp dp n = arrV cA1 (sv_ln h c1) (fun j => Value.int (va_cpy (h.1 c0) (h.1 c1) sp.toNatClampNeg dp.toNatClampNeg n.toNatClampNeg j)) := by
    rw [ea, eb]; exact va_copied (fun z => Value.int z) cA0 cA1 (h.1 c0) (h.1 c1) p4
  rw [e1] at X' step
  have hlb : sv_ad E c1 < H.size := (Array.getElem?_eq_some_iff.mp b1).1
  generalize hnc : arrV cA1 (sv_ln h c1) (fun j => Value.int (va_cpy (h.1 c0) (h.1 c1) sp.toNatClampNeg dp.toNatClampNeg n.toNatClampNeg j)) = nc at X' step
  have hheap : ((T.setVm vm').setCell (sv_ad E c1) nc).heap = H.setIfInBounds (sv_ad E c1) nc := by rw [← hT]; rfl
  have oq : ∀ q : Nat, q ≠ sv_ad E c1 → (H.setIfInBounds (sv_ad E c1) nc)[q]? = H[q]? := fun q hq => by simp [Array.getElem?_setIfInBounds, Ne.symm hq]
  have hcell : sv_cell E s (sv_cpI h.1 c0 c1 sp.toNatClampNeg dp.toNatClampNeg n.toNatClampNeg, h.2) (H.setIfInBounds (sv_ad E c1) nc) c1 := by
    unfold sv_cell
    rw [show sv_kd (sv_cpI h.1 c0 c1 sp.toNatClampNeg dp.toNatClampNeg n.toNatClampNeg, h.2) c1 = 20 from k1, if_neg (by decide), if_pos (by decide)]
    refine ⟨nc, by simp [Array.getElem?_setIfInBounds, hlb], ?_, ?_, ?_, fun j hj => ?_, fun _ => ⟨cA1, ?_, bf⟩, trivial⟩
    · rw [← hnc]; exact ⟨(fun z hz => by cases hz), kB, by rw [← bcl] ; exact hkB, cmB, hkkB⟩
    · rw [← hnc]; exact fun z => by cases z
    · rw [← hnc, arrV_size]; exact ⟨Nat.le_refl _, rfl⟩
    · rw [← hnc, arrV_read _ _ hj]; simp [sv_fv, sv_aty, sv_cpI]
    · rw [← hnc]; congr 1; funext j; simp [sv_fv, sv_aty, sv_cpI]
  obtain ⟨t, t1, t2⟩ := k p l e R s m args below meth cd (H.setIfInBounds (sv_ad E c1) nc) _ cells slots Z ls cc0 s0 Fx hK (hP.put hK.1 o1 ⟨rfl, rfl, rfl, rfl, fun q hq j => ⟨by simp [sv_cpI, hq], rfl, rfl⟩⟩ (by simp) oq hcell) ⟨by simp; exact hS.1, fun q g1 g2 => by
      rw [oq q (fun e => g2 (by rw [e]; exact sv_ad_own o1))]
      exact hS.2.1 q g1 g2, fun q hq => by
      rcases List.mem_append.mp hq with z | z
      · exact hS.2.2 q z
      · obtain ⟨z1, -, hz⟩ := List.mem_map.mp z
        rw [← hz]
        exact sv_ad_own o1⟩ hB hR hc hs0 hl hE _ hheap X'
  exact ⟨t, step t t1, t2⟩
theorem sv_copyL {c0 c1 index : Nat} {sp dp n : Int32} {rest : List Value} (hd : decode M.2.1 pc = .ok (.invokestatic index, 3)) (hln : Cond.methodLink M.1.cls index arraycopyName ∈ sv_T) (hnat : Cond.native arraycopyName ∈ sv_T) (hst : Cond.static arraycopyName ∈ sv_T) (hini : Cond.initialized "java/lang/System" ∈ sv_T) (k0 : sv_kd h c0 = 21) (k1 : sv_kd h c1 = 21) (o0 : 64 ≤ c0) (o1 : 64 ≤ c1) (l0 : c0 < sv_nx h) (l1 : c1 < sv_nx h) (hok : sv_cpb sp dp n (sv_ln h c0) (sv_ln h c1) = true) (hrest : (rest.map fun v => v.category).sum ≤ 8)
    (k : sv_V E M (d + 1) φ (pc + 3) lv rest (h.1, sv_cpL h.2.1 c0 c1 sp.toNatClampNeg dp.toNatClampNeg n.toNatClampNeg, h.2.2) o) : sv_V E M (d + 1) φ pc lv (.int n :: .int dp :: sv_r E c1 :: .int sp :: sv_r E c0 :: rest) h o := by
  obtain ⟨p1, p2, p3, p4, p5⟩ := of_decide_eq_true hok
  intro a ho
  obtain ⟨hm, k⟩ := k a ho
  refine ⟨hm, ?_⟩
  intro p l e R s m args below meth cd H locs cells slots Z ls cc0 s0 Fx hK hP hS hB hR hc hs0 hl hE
  obtain ⟨x0, a1, a2, a3, a4, a5, a6, a7⟩ := hP.arr k0 (by decide) (by decide) l0
  obtain ⟨x1, b1, b2, b3, b4, b5, b6, b7⟩ := hP.arr k1 (by decide) (by decide) l1
  obtain ⟨cA0, ea, -⟩ := a6 o0
  obtain ⟨cA1, eb, bf⟩ := b6 o1
  have av : x0.vm = .none := by rw [ea]; rfl
  have bv : x1.vm = .none := by rw [eb]; rfl
  have az : x0.slots.size = sv_ln h c0 := by rw [ea, arrV_size]
  have bz : x1.slots.size = sv_ln h c1 := by rw [eb, arrV_size]
  have bcl : x1.cls = cA1 := by rw [eb]; rfl
  obtain ⟨-, kA, hkA, cmA, hkkA⟩ := a2
  obtain ⟨-, kB, hkB, cmB, hkkB⟩ := b2
  intro T hT X
  obtain ⟨vm', X', step⟩ := X.arraycopy Fx.1 Fx.2.2.2.1 (Fx.2.2.2.2.1 _ hln) (Fx.2.2.2.2.1 _ hnat) (Fx.2.2.2.2.1 _ hst) (Fx.2.2.2.2.1 _ hini) (src := sv_ad E c0) (dst := sv_ad E c1) (cs := x0) (cd := x1) (srcPos := sp) (destPos := dp) (n := n) (by rw [hT]; exact a1) (by rw [hT]; exact b1)
    (fun _ z => by rw [av] at z; cases z) (fun _ z => by rw [bv] at z; cases z) a3 b3 hkA hkB hkkA hkkB (by decide) p1 p2 p3
    (by rw [sv_nn sp p1, sv_nn n p3, az]; omega) (by rw [sv_nn dp p2, sv_nn n p3, bz]; omega)
    (fun vm₁ _ i hi => by
      have ei : x0.slots.getD (sp.toNatClampNeg + i) .null = Value.long (h.2.1 c0 (sp.toNatClampNeg + i)) := by
        rw [Array.getD_eq_getD_getElem?, a5 _ (by omega)]
        rfl
      refine ⟨?_, ?_⟩
      · rw [ei]; rfl
      · rw [ei]; exact trivial)
    (g := F0 m pc ls (.int n :: .int dp :: sv_r E c1 :: .int sp :: sv_r E c0 :: rest)) rfl (by rw [Fx.2.2.1]; exact hl.1) (rest := rest) rfl (by rw [Fx.2.1]; exact hd) (by have := hR.1; omega) (sv_rmN hR.2.1 hrest)
  have e1 : copied x0 x1 sp dp n = arrV cA1 (sv_ln h c1) (fun j => Value.long (va_cpy (h.2.1 c0) (h.2.1 c1) sp.toNatClampNeg dp.toNatClampNeg n.toNatClampNeg j)) := by
    rw [ea, eb]; exact va_copied (fun z => Value.long z) cA0 cA1 (h.2.1 c0) (h.2.1 c1) p4
  rw [e1] at X' step
  have hlb : sv_ad E c1 < H.size := (Array.getElem?_eq_some_iff.mp b1).1
  generalize hnc : arrV cA1 (sv_ln h c1) (fun j => Value.long (va_cpy (h.2.1 c0) (h.2.1 c1) sp.toNatClampNeg dp.toNatClampNeg n.toNatClampNeg j)) = nc at X' step
  have hheap : ((T.setVm vm').setCell (sv_ad E c1) nc).heap = H.setIfInBounds (sv_ad E c1) nc := by rw [← hT]; rfl
  have oq : ∀ q : Nat, q ≠ sv_ad E c1 → (H.setIfInBounds (sv_ad E c1) nc)[q]? = H[q]? := fun q hq => by simp [Array.getElem?_setIfInBounds, Ne.symm hq]
  have hcell : sv_cell E s (h.1, sv_cpL h.2.1 c0 c1 sp.toNatClampNeg dp.toNatClampNeg n.toNatClampNeg, h.2.2) (H.setIfInBounds (sv_ad E c1) nc) c1 := by
    unfold sv_cell
    rw [show sv_kd (h.1, sv_cpL h.2.1 c0 c1 sp.toNatClampNeg dp.toNatClampNeg n.toNatClampNeg, h.2.2) c1 = 21 from k1, if_neg (by decide), if_pos (by decide)]
    refine ⟨nc, by simp [Array.getElem?_setIfInBounds, hlb], ?_, ?_, ?_, fun j hj => ?_, fun _ => ⟨cA1, ?_, bf⟩, trivial⟩
    · rw [← hnc]; exact ⟨(fun z hz => by cases hz), kB, by rw [← bcl] ; exact hkB, cmB, hkkB⟩
    · rw [← hnc]; exact fun z => by cases z
    · rw [← hnc, arrV_size]; exact ⟨Nat.le_refl _, rfl⟩
    · rw [← hnc, arrV_read _ _ hj]; simp [sv_fv, sv_aty, sv_cpL]
    · rw [← hnc]; congr 1; funext j; simp [sv_fv, sv_aty, sv_cpL]
  obtain ⟨t, t1, t2⟩ := k p l e R s m args below meth cd (H.setIfInBounds (sv_ad E c1) nc) _ cells slots Z ls cc0 s0 Fx hK (hP.put hK.1 o1 ⟨rfl, rfl, rfl, rfl, fun q hq j => ⟨rfl, by simp [sv_cpL, hq], rfl⟩⟩ (by simp) oq hcell) ⟨by simp; exact hS.1, fun q g1 g2 => by
      rw [oq q (fun e => g2 (by rw [e]; exact sv_ad_own o1))]
      exact hS.2.1 q g1 g2, fun q hq => by
      rcases List.mem_append.mp hq with z | z
      · exact hS.2.2 q z
      · obtain ⟨z1, -, hz⟩ := List.mem_map.mp z
        rw [← hz]
        exact sv_ad_own o1⟩ hB hR hc hs0 hl hE _ hheap X'
  exact ⟨t, step t t1, t2⟩
end SV7
