/-! two pictures that say the same; a picture laid over another below cell 64; what the two constructors make -/
def sv_fn (k : Nat) : Nat := [6, 6, 6, 10, 5, 12, 5, 5, 3, 11, 15, 11, 79].getD k 0
def sv_lim (k n : Nat) : Nat := if k < 13 then sv_fn k else n
theorem sv_fn_ok {k : Nat} {q : vw_C} (h : vwCl[k]? = some q) : q.2.2 = sv_fn k := by
  have hk : k < 13 := (List.getElem?_eq_some_iff.mp h).1
  match k, hk, h with
  | 0, _, h | 1, _, h | 2, _, h | 3, _, h | 4, _, h | 5, _, h | 6, _, h | 7, _, h | 8, _, h | 9, _, h | 10, _, h | 11, _, h | 12, _, h => cases h; rfl
def sv_sim (h h' : sv_H) : Prop := sv_nx h' = sv_nx h ∧ sv_sl h' = sv_sl h ∧ ∀ c, c < sv_nx h → sv_kd h' c = sv_kd h c ∧ sv_ln h' c = sv_ln h c ∧ ∀ j, (j < sv_lim (sv_kd h c) (sv_ln h c) ∨ sv_kd h c = 30) → h'.1 c j = h.1 c j ∧ h'.2.1 c j = h.2.1 c j ∧ (¬ (20 ≤ sv_kd h c ∧ sv_kd h c ≤ 23) → h'.2.2.1 c j = h.2.2.1 c j)
theorem sv_fv_sim {E : sv_E} {h h1 : sv_H} {c j k : Nat} (e1 : h1.1 c j = h.1 c j) (e2 : h1.2.1 c j = h.2.1 c j) (e3 : ¬ (20 ≤ k ∧ k ≤ 23) → h1.2.2.1 c j = h.2.2.1 c j) : sv_fv E h1 c (sv_aty k) j = sv_fv E h c (sv_aty k) j := by
  by_cases q : 20 ≤ k ∧ k ≤ 23
  · have q4 : k = 20 ∨ k = 21 ∨ k = 22 ∨ k = 23 := by omega
    rcases q4 with rfl | rfl | rfl | rfl <;> simp [sv_fv, sv_aty, e1, e2]
  · exact sv_fv_eq e1 e2 (e3 q) _
theorem sv_arrV_eq {cA : ClassId} {N : Nat} {f g : Nat → Value} (h : ∀ j, j < N → f j = g j) : arrV cA N f = arrV cA N g := by
  unfold arrV
  congr 1
  congr 1
  funext j
  exact h j.1 j.2
theorem sv_P.sim {E : sv_E} {s : State} {h h' : sv_H} {H : Heap} (hs : sv_sim h h') (hP : sv_P E s h H) : sv_P E s h' H := by
  obtain ⟨s1, s2, s3⟩ := hs
  refine ⟨by rw [s1]; exact hP.1, by rw [s1]; exact hP.2.1, fun c hc => ?_, hP.2.2.2⟩
  rw [s1] at hc
  obtain ⟨e1, e2, e3⟩ := s3 c hc
  have q := hP.2.2.1 c hc
  by_cases k13 : sv_kd h c < 13
  · unfold sv_cell at q ⊢
    rw [e1]
    rw [if_pos k13] at q ⊢
    obtain ⟨x, hx1, hob⟩ := q
    refine ⟨x, hx1, hob.to (fun j hj => ?_)⟩
    rw [sv_fn_ok hx1] at hj
    obtain ⟨x1, x2, x3⟩ := e3 j (Or.inl (by unfold sv_lim; rw [if_pos k13]; exact hj))
    exact (sv_fv_eq x1 x2 (x3 (by omega)) _).symm
  · by_cases k30 : sv_kd h c = 30
    · exact q.kept rfl e2 e1 (fun j => by
        obtain ⟨x1, x2, x3⟩ := e3 j (Or.inr k30)
        exact ⟨x1, x2, x3 (by omega)⟩)
    · unfold sv_cell at q ⊢
      rw [e1]
      rw [if_neg k13] at q ⊢
      by_cases k28 : sv_kd h c < 28
      · rw [if_pos k28] at q ⊢
        obtain ⟨cell, a1, a2, a3, a4, a5, a6, a7⟩ := q
        refine ⟨cell, a1, a2, a3, by rw [e2]; exact a4, fun j hj => ?_, fun hc64 => ?_, a7⟩
        · rw [e2] at hj
          obtain ⟨x1, x2, x3⟩ := e3 j (Or.inl (by unfold sv_lim; rw [if_neg k13]; exact hj))
          rw [sv_fv_sim x1 x2 x3]
          exact a5 j hj
        · obtain ⟨cA, g1, g2⟩ := a6 hc64
          refine ⟨cA, ?_, g2⟩
          rw [e2, g1]
          exact sv_arrV_eq (fun j hj => by
            obtain ⟨x1, x2, x3⟩ := e3 j (Or.inl (by unfold sv_lim; rw [if_neg k13]; exact hj))
            exact (sv_fv_sim x1 x2 x3).symm)
      · rw [if_neg k28, if_neg k30]; trivial
def sv_ov (h z : sv_H) : sv_H := (fun c k => if c < 64 then h.1 c k else z.1 c k, fun c k => if c < 64 then h.2.1 c k else z.2.1 c k, fun c k => if c < 64 then h.2.2.1 c k else z.2.2.1 c k, fun c => if c < 64 then sv_ln h c else sv_ln z c, fun c => if c < 64 then sv_kd h c else sv_kd z c, sv_nx z, sv_sl z)
theorem sv_ov_forget {E : sv_E} {s : State} {h z : sv_H} {H : Heap} (hz : ∀ c, c < 64 → sv_kd z c = 99) (hP : sv_P E s (sv_ov h z) H) : sv_P E s z H := by
  refine ⟨hP.1, hP.2.1, fun c hc => ?_, hP.2.2.2⟩
  by_cases q : c < 64
  · unfold sv_cell
    rw [hz c q]
    exact trivial
  · exact (hP.2.2.1 c hc).kept rfl (by show _ = (if c < 64 then _ else _); rw [if_neg q]) (by show _ = (if c < 64 then _ else _); rw [if_neg q]) (fun j => ⟨by show _ = (if c < 64 then _ else _); rw [if_neg q], by show _ = (if c < 64 then _ else _); rw [if_neg q], by show _ = (if c < 64 then _ else _); rw [if_neg q]⟩)
theorem sv_ov_gain {E : sv_E} {s : State} {h z x : sv_H} {H H' : Heap} {locs locs' : List Loc} (hok : ∀ c, c < 64 → E.2.2 c < E.1) (hB : E.1 ≤ s.heap.size) (hP : sv_P E s (sv_ov h z) H) (hS : va_S (fun q => E.1 ≤ q) s.heap H locs) (hS' : va_S (fun q => E.1 ≤ q) s.heap H' locs') (hX : sv_P E s x H') : sv_P E s (sv_ov h x) H' := by
  refine ⟨hX.1, hX.2.1, fun c hc => ?_, hX.2.2.2⟩
  have hc : c < sv_nx x := hc
  by_cases q : c < 64
  · have had : sv_ad E c = E.2.2 c := by unfold sv_ad; rw [if_pos q]
    have hlt := hok c q
    have hz : c < sv_nx z := Nat.lt_of_lt_of_le q hP.2.1
    have hq : H'[sv_ad E c]? = H[sv_ad E c]? := by
      rw [had]
      exact (hS'.2.1 _ (Nat.lt_of_lt_of_le hlt hB) (Nat.not_le.mpr hlt)).trans (hS.2.1 _ (Nat.lt_of_lt_of_le hlt hB) (Nat.not_le.mpr hlt)).symm
    refine (hP.2.2.1 c hz).kept hq ?_ ?_ (fun j => ⟨?_, ?_, ?_⟩) <;> simp [sv_ov, sv_ln, sv_kd, q]
  · exact (hX.2.2.1 c hc).kept rfl (by show (if c < 64 then _ else _) = _; rw [if_neg q]) (by show (if c < 64 then _ else _) = _; rw [if_neg q]) (fun j => ⟨by show (if c < 64 then _ else _) = _; rw [if_neg q], by show (if c < 64 then _ else _) = _; rw [if_neg q], by show (if c < 64 then _ else _) = _; rw [if_neg q]⟩)
section SVO
variable {α β : Type} {E : sv_E} {M : sv_M} {d pc : Nat} {φ : α → Option Value × sv_H} {φ' : β → Option Value × sv_H} {lv : List (Nat × Value)} {st : List Value} {h h' z : sv_H} {o : Option α} {o' : Option β}
theorem sv_ovl (hz : ∀ c, c < 64 → sv_kd z c = 99) (hv : sv_V E M d φ pc lv st z o) : sv_V E M d (fun a => ((φ a).1, sv_ov h (φ a).2)) pc lv st (sv_ov h z) o := by
  intro a ho
  obtain ⟨hm, hv⟩ := hv a ho
  refine ⟨hm, ?_⟩
  intro p l e R s m args below meth cd H locs cells slots Z ls c0 s0 Fx hK hP hS hB hR hc hs0 hl hE
  exact hv p l e R s m args below meth cd H locs cells slots Z ls c0 s0 Fx hK (sv_ov_forget hz hP) hS hB hR hc hs0 hl (fun H' locs' cells' slots' pc' ls' hd' hP' hS' hc' hs' => hE H' locs' cells' slots' pc' ls' hd' (sv_ov_gain hK.1 hB hP hS hS' hP') hS' hc' hs')
theorem sv_into (hs : sv_sim h h') (hv : sv_V E M d φ pc lv st h' o) : sv_V E M d φ pc lv st h o := by
  intro a ho
  obtain ⟨hm, hv⟩ := hv a ho
  refine ⟨by rw [← hs.1, ← hs.2.1]; exact hm, ?_⟩
  intro p l e R s m args below meth cd H locs cells slots Z ls c0 s0 Fx hK hP hS hB hR hc hs0 hl hE
  exact hv p l e R s m args below meth cd H locs cells slots Z ls c0 s0 Fx hK (hP.sim hs) hS hB hR (by rw [hs.1]; exact hc) (by rw [hs.2.1]; exact hs0) hl hE
theorem sv_out (hv : sv_V E M d φ pc lv st h o) (hs : ∀ b, o' = some b → ∃ a, o = some a ∧ (φ' b).1 = (φ a).1 ∧ sv_sim (φ a).2 (φ' b).2) : sv_V E M d φ' pc lv st h o' := by
  intro b hb
  obtain ⟨a, ho, e1, e2⟩ := hs b hb
  obtain ⟨hm, hv⟩ := hv a ho
  refine ⟨by rw [e1, e2.1, e2.2.1]; exact hm, ?_⟩
  intro p l e R s m args below meth cd H locs cells slots Z ls c0 s0 Fx hK hP hS hB hR hc hs0 hl hE
  refine hv p l e R s m args below meth cd H locs cells slots Z ls c0 s0 Fx hK hP hS hB ?_ hc hs0 hl (fun H' locs' cells' slots' pc' ls' hd' hP' hS' hc' hs' => ?_)
  · obtain ⟨r1, r2, r3, r4⟩ := hR
    exact ⟨r1, r2, by rw [← e2.1]; exact r3, by rw [← e2.2.1]; exact r4⟩
  · rw [← e1]
    exact hE H' locs' cells' slots' pc' ls' hd' (hP'.sim e2) hS' (by rw [e2.1]; exact hc') (by rw [e2.2.1]; exact hs')
end SVO
/-- a picture read back -/
def ss_of (h : sv_H) : sv_S := (h.1, h.2.1, fun c k => (h.2.2.1 c k).getD 0, sv_ln h, sv_nx h - 243, sv_sl h - 12508)
noncomputable def F_Ls_add (x1 : Int32) (x2 : Int32) (s : sv_S) : Option (Int32 × sv_S) :=
  (FD_Ls_add 81 x1 x2 77 (ss_e s)).bind fun q => @ite _ (sv_sim q.2 (ss_e (ss_of q.2))) (Classical.propDecidable _) (some (q.1, ss_of q.2)) none
theorem V_Ls_add (E : sv_E) (d : Nat) (x1 : Int32) (x2 : Int32) (s : sv_S) : sv_V E m_Ls_add (d + 4) ss_i 0 (lv_args 0 [sv_r E 81, .int x1, .int x2, sv_r E 77]) [] (ss_e s) (F_Ls_add x1 x2 s) := by
  refine sv_out (VD_Ls_add E d 81 x1 x2 77 (ss_e s)) (fun b hb => ?_)
  unfold F_Ls_add at hb
  obtain ⟨q, hq, hb⟩ := Option.bind_eq_some_iff.mp hb
  refine ⟨q, hq, ?_⟩
  by_cases hs : sv_sim q.2 (ss_e (ss_of q.2))
  · rw [if_pos hs] at hb
    cases hb
    exact ⟨rfl, hs⟩
  · rw [if_neg hs] at hb
    cases hb
def sk0 : sv_H := (fun _ _ => 0, fun _ _ => 0, fun _ _ => none, fun _ => 0, fun _ => 99, 64, 0)
def sk1 : sv_H := sv_mk sk0 11 0 11
def sk2 : sv_H := (FD_X_init 64 sk1).getD sk0
def sk3 : sv_H := sv_mk sk2 12 0 79
def sk4 : sv_H := (FD_Mo_init 187 sk3).getD sk0
theorem sk_x : FD_X_init 64 sk1 = some sk2 := by
  have h : (FD_X_init 64 sk1).isSome = true := by decide +kernel
  unfold sk2
  cases e : FD_X_init 64 sk1 with
  | none => rw [e] at h; cases h
  | some v => rfl
theorem sk_m : FD_Mo_init 187 sk3 = some sk4 := by
  have h : (FD_Mo_init 187 sk3).isSome = true := by decide +kernel
  unfold sk4
  cases e : FD_Mo_init 187 sk3 with
  | none => rw [e] at h; cases h
  | some v => rfl
theorem sk1_99 : ∀ c, c < 64 → sv_kd sk1 c = 99 := by decide +kernel
theorem sk3_99 : ∀ c, c < 64 → sv_kd sk3 c = 99 := by decide +kernel
theorem sk_nx : sv_nx sk2 = 187 ∧ sv_nx sk4 = 243 ∧ sv_sl sk4 = 12508 := by decide +kernel
theorem sk_kd : ∀ c, c < 243 → 64 ≤ c → ss_K c = sv_kd sk4 c ∧ ss_lnL.getD c 0 = sv_ln sk4 c := by decide +kernel
theorem sk_rf : ∀ c, c < 243 → 64 ≤ c → (sv_kd sk4 c < 13 ∨ 24 ≤ sv_kd sk4 c) → ∀ k, k < sv_lim (sv_kd sk4 c) (sv_ln sk4 c) → ss_R (fun _ _ => 85) c k = sk4.2.2.1 c k := by decide +kernel
theorem sk_k13 : ∀ c, c < 243 → ss_K c < 13 ∨ 20 ≤ ss_K c := by decide +kernel
theorem sk_k30 : ∀ c, c < 243 → 64 ≤ c → ¬ ss_K c = 30 := by decide +kernel
/-- the picture before the law, with what lies there; and the picture behind the constructors -/
def sk_h (f : Nat → Nat → Int32) (n : Nat) : sv_H := (f, fun _ _ => 0, ss_LR, ss_N (fun _ => n), ss_K, 64, 0)
theorem sv_ov_a (h z : sv_H) : sv_nx (sv_ov h z) = sv_nx z ∧ sv_sl (sv_ov h z) = sv_sl z := ⟨rfl, rfl⟩
theorem sv_ov_b (h z : sv_H) (c : Nat) : sv_kd (sv_ov h z) c = (if c < 64 then sv_kd h c else sv_kd z c) ∧ sv_ln (sv_ov h z) c = (if c < 64 then sv_ln h c else sv_ln z c) ∧ ∀ j, (sv_ov h z).1 c j = (if c < 64 then h.1 c j else z.1 c j) ∧ (sv_ov h z).2.1 c j = (if c < 64 then h.2.1 c j else z.2.1 c j) ∧ (sv_ov h z).2.2.1 c j = (if c < 64 then h.2.2.1 c j else z.2.2.1 c j) := ⟨rfl, rfl, fun _ => ⟨rfl, rfl, rfl⟩⟩
/-- rows of a picture of S -/
theorem ss_e_b (s : sv_S) (c : Nat) : sv_kd (ss_e s) c = ss_K c ∧ sv_ln (ss_e s) c = ss_N s.2.2.2.1 c ∧ ∀ j, (ss_e s).1 c j = s.1 c j ∧ (ss_e s).2.1 c j = s.2.1 c j ∧ (ss_e s).2.2.1 c j = ss_R s.2.2.1 c j := ⟨rfl, rfl, fun _ => ⟨rfl, rfl, rfl⟩⟩
def sk_mix (f : Nat → Nat → Int32) (n : Nat) (z : sv_H) : sv_S := (fun c k => if c < 64 then f c k else z.1 c k, fun c k => if c < 64 then 0 else z.2.1 c k, fun _ _ => 85, fun _ => n, 0, 0)
theorem sk_simG (f : Nat → Nat → Int32) (n : Nat) (z : sv_H) (z1 : sv_nx z = 243) (z2 : sv_sl z = 12508) (z3 : ∀ c, c < 243 → 64 ≤ c → ss_K c = sv_kd z c ∧ ss_lnL.getD c 0 = sv_ln z c) (z4 : ∀ c, c < 243 → 64 ≤ c → (sv_kd z c < 13 ∨ 24 ≤ sv_kd z c) → ∀ k, k < sv_lim (sv_kd z c) (sv_ln z c) → ss_R (fun _ _ => 85) c k = z.2.2.1 c k) : sv_sim (sv_ov (sk_h f n) z) (ss_e (sk_mix f n z)) := by
  refine ⟨by rw [(sv_ov_a _ _).1, z1]; rfl, by rw [(sv_ov_a _ _).2, z2]; rfl, fun c hc => ?_⟩
  rw [(sv_ov_a _ _).1, z1] at hc
  obtain ⟨b1, b2, b3⟩ := sv_ov_b (sk_h f n) z c
  obtain ⟨d1, d2, d3⟩ := ss_e_b (sk_mix f n z) c
  rw [b1, b2, d1, d2]
  by_cases q : c < 64
  · have e : ¬ (c = 82 ∨ c = 83) := by omega
    refine ⟨by rw [if_pos q]; rfl, by rw [if_pos q]; rfl, fun j _ => ⟨?_, ?_, fun _ => ?_⟩⟩
    · rw [(d3 j).1, (b3 j).1, if_pos q]; show (if c < 64 then f c j else _) = f c j; rw [if_pos q]
    · rw [(d3 j).2.1, (b3 j).2.1, if_pos q]; show (if c < 64 then (0 : Int64) else _) = 0; rw [if_pos q]
    · rw [(d3 j).2.2, (b3 j).2.2, if_pos q]; unfold ss_R; rw [if_neg e]; rfl
  · obtain ⟨e1, e2⟩ := z3 c hc (by omega)
    have c0 : ¬ c = 0 := by omega
    rw [if_neg q, if_neg q]
    refine ⟨e1, ?_, fun j hj => ⟨?_, ?_, fun hk => ?_⟩⟩
    · rw [← e2]
      unfold ss_N
      rw [if_neg c0, if_pos hc]
    · rw [(d3 j).1, (b3 j).1, if_neg q]; show (if c < 64 then f c j else _) = _; rw [if_neg q]
    · rw [(d3 j).2.1, (b3 j).2.1, if_neg q]; show (if c < 64 then (0 : Int64) else _) = _; rw [if_neg q]
    · have hk2 : sv_kd z c < 13 ∨ 24 ≤ sv_kd z c := by
        have w : ss_K c < 13 ∨ 20 ≤ ss_K c := sk_k13 c hc
        omega
      rw [(d3 j).2.2, (b3 j).2.2, if_neg q]
      rcases hj with hj | hj
      · exact z4 c hc (by omega) hk2 j hj
      · rw [← e1] at hj
        exact absurd hj (sk_k30 c hc (by omega))
def sk_s (f : Nat → Nat → Int32) (n : Nat) : sv_S := sk_mix f n sk4
theorem sk_sim (f : Nat → Nat → Int32) (n : Nat) : sv_sim (sv_ov (sk_h f n) sk4) (ss_e (sk_s f n)) := sk_simG f n sk4 sk_nx.2.1 sk_nx.2.2 sk_kd sk_rf
