/-! what the Statement gives of the start -/
def zw_nw : List Cond := flatC (Jvm.Cond.and given_1 narrow_1)
def zw_tm (i : Nat) : Term := .string "PennyRates$LawText" (82 + 2 * i)
def zw_ln : List Nat := [4, 4, 5, 6, 4, 4, 5, 4, 4, 4, 6]
def zw_by : List (List Int32) := zb_ws.map (fun l => l.map zb_n)
def zw_ps : List Nat := [43, 51, 60, 71, 84, 96, 109, 124, 139, 155, 172]
theorem zw_1 : ∀ i, i < 11 → zw_nw[zw_ps.getD i 0]? = some (.exactly (zw_tm i) "java/lang/String") := by decide +kernel
theorem zw_2 : ∀ i, i < 11 → zw_nw[zw_ps.getD i 0 + 1]? = some (.eq (.field (zw_tm i) "java/lang/String" "coder" "B") (.int 0)) := by decide +kernel
theorem zw_3 : ∀ i, i < 11 → zw_nw[zw_ps.getD i 0 + 2]? = some (.arrayOf (.field (zw_tm i) "java/lang/String" "value" "[B") .byte) := by decide +kernel
theorem zw_4 : ∀ i, i < 11 → zw_nw[zw_ps.getD i 0 + 3]? = some (.eq (.length (.field (zw_tm i) "java/lang/String" "value" "[B")) (.int (Int32.ofNat (zw_ln.getD i 0)))) := by decide +kernel
theorem zw_5 : ∀ i, i < 11 → ∀ j, j < zw_ln.getD i 0 → zw_nw[zw_ps.getD i 0 + 4 + j]? = some (.eq (.elem (.field (zw_tm i) "java/lang/String" "value" "[B") (.int (Int32.ofNat j))) (.int ((zw_by.getD i []).getD j 0))) := by decide +kernel
theorem zw_6 : ∀ j, j < 11 → ∀ i, i < j → zw_nw[zw_ps.getD j 0 + 4 + zw_ln.getD j 0 + i]? = some (.not (.eq (zw_tm i) (zw_tm j))) := by decide +kernel
theorem zw_7 : ∀ i, i < 11 → zw_ln.getD i 0 < 2 ^ 31 := by decide +kernel
theorem zw_8 : ∀ i, i < 11 → lw_tbl[648 + i]? = some (.stringRef "PennyRates$LawText" (82 + 2 * i) (sv_txt i)) := by decide +kernel
theorem zw_9 : ∀ j, j < 7 → zw_nw[36 + j]? = some (.eq (.elem (.static "PennyRates$Acts" "ABOVE" "[I") (.int (Int32.ofNat j))) (.int (zb_i (zb_aL.getD j 0)))) := by decide +kernel
theorem zw_10 : ∀ j, j < 21 → zw_nw[12 + j]? = some (.eq (.elem (.static "PennyRates$Acts" "BODIES" "[I") (.int (Int32.ofNat j))) (.int (zb_n (zb_bL.getD j 0)))) := by decide +kernel
theorem zw_11 : ∀ i, i < 11 → ss_K (3 + i) = 30 ∧ ss_K (14 + i) = 22 ∧ ss_lnL.getD (14 + i) 0 = zw_ln.getD i 0 ∧ (zb_ws.getD i []).length = zw_ln.getD i 0 ∧ ss_LR (3 + i) 0 = some (14 + i) := by decide +kernel
theorem zw_12 : ∀ i, i < 11 → ∀ j, j < zw_ln.getD i 0 → (zw_by.getD i []).getD j 0 = zb_n ((zb_ws.getD i []).getD j 0) := by decide +kernel
theorem zw_13 : ∀ c, c < 64 → 25 ≤ c → ss_K c = 99 := by decide +kernel
/-- where what lies there before lies -/
def zw_ad (b ta tc v1 v2 : Nat) (adK adV : Nat → Nat) (c : Nat) : Nat := if c = 0 then b else if c = 1 then ta else if c = 2 then tc else if c < 14 then adK (c - 3) else if c < 25 then adV (c - 14) else if c = 64 then v1 else if c = 65 then v2 else b
def zw_f (xs : Nat → Int32) (c k : Nat) : Int32 := if c = 0 then xs k else if c = 1 then zb_i (zb_aL.getD k 0) else if c = 2 then zb_n (zb_bL.getD k 0) else if c < 14 then 0 else zb_n ((zb_ws.getD (c - 14) []).getD k 0)
theorem zw_Fz (xs : Nat → Int32) : zb_Fz (zw_f xs) := by
  refine ⟨fun i hi => ⟨?_, fun j hj => ?_⟩, fun k hk => rfl, fun k hk => rfl⟩
  · unfold zw_f
    rw [if_neg (by omega), if_neg (by omega), if_neg (by omega), if_pos (by omega)]
  · unfold zw_f
    rw [if_neg (by omega), if_neg (by omega), if_neg (by omega), if_neg (by omega), show 14 + i - 14 = i by omega]
theorem zw_arr {E : sv_E} {s : State} {h : sv_H} {H : Heap} {c t N : Nat} {ty : FieldType} {F : Nat → Value} {A : Nat → Prop} (hT : va_T ty t N F A s H) (hc : c < 64) (h1 : sv_ad E c = t) (h2 : sv_ln h c = N) (h3 : ∀ j, j < N → F j = sv_fv E h c ty j) (h4 : ∀ cell, sv_ra s cell ty) : sv_arr E s h H c ty := by
  obtain ⟨cell, a1, a2, a3, a4, a5, a6, a7⟩ := hT
  refine ⟨cell, by rw [h1]; exact a1, a2, a3, ⟨by rw [h2]; exact a4, by rw [h2]; exact a5⟩, fun j hj => ?_, fun q => absurd q (by omega), h4 cell⟩
  rw [h2] at hj
  rw [a6 j hj, h3 j hj]
section ZWS
variable {s : State} {b L : Nat} {xs : Nat → Int32}
theorem zw_classes (hts : ∀ w ∈ lw_tbl, w.before #[Value.ref b] s = true) : ∃ g : Nat → ClassId × (Nat → Nat), ∀ (k : Nat) (q : vw_C), vwCl[k]? = some q → u_Kn s q.1 q.2.1 q.2.2 (g k).1 (g k).2 := by
  have hT : ∀ w ∈ sv_T, w.before #[Value.ref b] s = true := fun w h => hts w (List.mem_filter.mp h).1
  have hK : ∀ k : Nat, ∃ q : ClassId × (Nat → Nat), ∀ r : vw_C, vwCl[k]? = some r → u_Kn s r.1 r.2.1 r.2.2 q.1 q.2 := by
    intro k
    match k with
    | 0 => obtain ⟨cC, iS, h⟩ := u_known hT cf0.2.2.1 (hT _ wi0); exact ⟨(cC, iS), fun r hr => by cases hr; exact h⟩
    | 1 => obtain ⟨cC, iS, h⟩ := u_known hT cf1.2.2.1 (hT _ wi1); exact ⟨(cC, iS), fun r hr => by cases hr; exact h⟩
    | 2 => obtain ⟨cC, iS, h⟩ := u_known hT cf2.2.2.1 (hT _ wi2); exact ⟨(cC, iS), fun r hr => by cases hr; exact h⟩
    | 3 => obtain ⟨cC, iS, h⟩ := u_known hT cf3.2.2.1 (hT _ wi3); exact ⟨(cC, iS), fun r hr => by cases hr; exact h⟩
    | 4 => obtain ⟨cC, iS, h⟩ := u_known hT cf4.2.2.1 (hT _ wi4); exact ⟨(cC, iS), fun r hr => by cases hr; exact h⟩
    | 5 => obtain ⟨cC, iS, h⟩ := u_known hT cf5.2.2.1 (hT _ wi5); exact ⟨(cC, iS), fun r hr => by cases hr; exact h⟩
    | 6 => obtain ⟨cC, iS, h⟩ := u_known hT cf6.2.2.1 (hT _ wi6); exact ⟨(cC, iS), fun r hr => by cases hr; exact h⟩
    | 7 => obtain ⟨cC, iS, h⟩ := u_known hT cf7.2.2.1 (hT _ wi7); exact ⟨(cC, iS), fun r hr => by cases hr; exact h⟩
    | 8 => obtain ⟨cC, iS, h⟩ := u_known hT cf8.2.2.1 (hT _ wi8); exact ⟨(cC, iS), fun r hr => by cases hr; exact h⟩
    | 9 => obtain ⟨cC, iS, h⟩ := u_known hT cf9.2.2.1 (hT _ wi9); exact ⟨(cC, iS), fun r hr => by cases hr; exact h⟩
    | 10 => obtain ⟨cC, iS, h⟩ := u_known hT cf10.2.2.1 (hT _ wi10); exact ⟨(cC, iS), fun r hr => by cases hr; exact h⟩
    | 11 => obtain ⟨cC, iS, h⟩ := u_known hT cf11.2.2.1 (hT _ wi11); exact ⟨(cC, iS), fun r hr => by cases hr; exact h⟩
    | 12 => obtain ⟨cC, iS, h⟩ := u_known hT cf12.2.2.1 (hT _ wi12); exact ⟨(cC, iS), fun r hr => by cases hr; exact h⟩
    | k + 13 => exact ⟨(0, fun _ => 0), fun r hr => by simp [vwCl] at hr⟩
  obtain ⟨g, hg⟩ := Classical.axiomOfChoice hK
  exact ⟨g, hg⟩
/-- the start -/
theorem zw_start (hts : ∀ w ∈ lw_tbl, w.before #[Value.ref b] s = true) (hX : va_X b L xs s s.heap) (hbl : b < s.heap.size) (hgv : (Jvm.Cond.and given_1 narrow_1).before #[Value.ref b] s = true) : ∃ E : sv_E, E.1 = s.heap.size ∧ sv_r E 0 = .ref b ∧ sv_K E s ∧ sv_P E s (sk_h (zw_f xs) L) s.heap := by
  have nw : ∀ (i : Nat) (w : Cond), zw_nw[i]? = some w → w.before #[Value.ref b] s = true := fun i w h => flat_of_before _ hgv w (List.mem_of_getElem? h)
  have tbl : ∀ (i : Nat) (w : Cond), lw_tbl[i]? = some w → w.before #[Value.ref b] s = true := fun i w h => hts w (List.mem_of_getElem? h)
  have hA : ∀ a : Nat, a < s.heap.size → ¬ (fun q : Nat => s.heap.size ≤ q) a := fun a h => Nat.not_le.mpr h
  obtain ⟨g, hg⟩ := zw_classes hts
  obtain ⟨adK, adV, hS, hSe⟩ := vk_Sof (args := #[Value.ref b]) (s := s) (N := 11) (tm := zw_tm) (len := zw_ln) (byt := zw_by) (A := fun q : Nat => s.heap.size ≤ q) zw_7 (fun i hi => nw _ _ (zw_1 i hi)) (fun i hi => nw _ _ (zw_2 i hi)) (fun i hi => nw _ _ (zw_3 i hi)) (fun i hi => nw _ _ (zw_4 i hi)) (fun i hi j hj => nw _ _ (zw_5 i hi j hj)) (fun i j hi hj ne => by
    rcases Nat.lt_or_ge i j with q | q
    · exact Or.inl (nw _ _ (zw_6 j hj i q))
    · exact Or.inr (nw _ _ (zw_6 i hi j (by omega)))) hA
  obtain ⟨ta, ta1, ta2⟩ := va_Tof (args := #[Value.ref b]) (s := s) (tm := .static "PennyRates$Acts" "ABOVE" "[I") (ty := .int) (N := 7) (f := fun j => .int (zb_i (zb_aL.getD j 0))) (A := fun q : Nat => s.heap.size ≤ q) (by decide) (nw 34 _ (by decide +kernel)) (va_eqt (nw 35 _ (by decide +kernel))) (fun j hj => va_eqt (nw (36 + j) _ (zw_9 j hj))) hA
  obtain ⟨tc, tc1, tc2⟩ := va_Tof (args := #[Value.ref b]) (s := s) (tm := .static "PennyRates$Acts" "BODIES" "[I") (ty := .int) (N := 21) (f := fun j => .int (zb_n (zb_bL.getD j 0))) (A := fun q : Nat => s.heap.size ≤ q) (by decide) (nw 10 _ (by decide +kernel)) (va_eqt (nw 11 _ (by decide +kernel))) (fun j hj => va_eqt (nw (12 + j) _ (zw_10 j hj))) hA
  have i101 : (Cond.initialized "PennyRates$Acts").before #[Value.ref b] s = true := tbl 101 _ (by decide +kernel)
  have z1 : va_Z "PennyRates$Acts" "ABOVE" "[I" (.ref ta) (fun q : Nat => s.heap.size ≤ q) s s.heap := va_Zof (tbl 1237 _ (by decide +kernel)) i101 ta1 hA
  have z2 : va_Z "PennyRates$Acts" "BODIES" "[I" (.ref tc) (fun q : Nat => s.heap.size ≤ q) s s.heap := va_Zof (tbl 1235 _ (by decide +kernel)) i101 tc1 hA
  have z3 : va_Z "java/lang/String" "COMPACT_STRINGS" "Z" (.int 1) (fun q : Nat => s.heap.size ≤ q) s s.heap := va_Zof (tbl 672 _ (by decide +kernel)) (tbl 105 _ (by decide +kernel)) (va_eqi (nw 4 _ (by decide +kernel))) hA
  have hq := va_Zqof (args := #[Value.ref b]) (s := s) (C := "jdk/internal/util/Preconditions") (n := "SIOOBE_FORMATTER") (d := "Ljava/util/function/BiFunction;") (A := fun q : Nat => s.heap.size ≤ q) (tbl 688 _ (by decide +kernel)) (tbl 107 _ (by decide +kernel)) (nw 5 _ (by decide +kernel)) hA
  obtain ⟨v1, v2, z4⟩ : ∃ v1 v2 : Nat, va_Z "jdk/internal/util/Preconditions" "SIOOBE_FORMATTER" "Ljava/util/function/BiFunction;" (if v2 = 0 then .null else .ref v1) (fun q : Nat => s.heap.size ≤ q) s s.heap := by
    rcases hq with h | ⟨t, h⟩
    · exact ⟨0, 0, by rw [if_pos rfl]; exact h⟩
    · exact ⟨t, 1, by rw [if_neg (by decide)]; exact h⟩
  have ltT : ∀ {ty : FieldType} {t N : Nat} {F : Nat → Value}, va_T ty t N F (fun q : Nat => s.heap.size ≤ q) s s.heap → t < s.heap.size := fun h => by
    obtain ⟨cell, h1, _⟩ := h; exact (Array.getElem?_eq_some_iff.mp h1).1
  have ltK : ∀ i, i < 11 → adK i < s.heap.size := fun i hi => by
    obtain ⟨cell, h1, _⟩ := (hS.1 i hi).1; exact (Array.getElem?_eq_some_iff.mp h1).1
  have eK : ∀ i, i < 11 → zw_ad b ta tc v1 v2 adK adV (3 + i) = adK i := fun i hi => by
    unfold zw_ad
    rw [if_neg (by omega), if_neg (by omega), if_neg (by omega), if_pos (by omega), show 3 + i - 3 = i by omega]
  have eV : ∀ i, i < 11 → zw_ad b ta tc v1 v2 adK adV (14 + i) = adV i := fun i hi => by
    unfold zw_ad
    rw [if_neg (by omega), if_neg (by omega), if_neg (by omega), if_neg (by omega), if_pos (by omega), show 14 + i - 14 = i by omega]
  have aE : ∀ c, c < 64 → sv_ad (s.heap.size, (fun k => (g k).1, fun k => (g k).2), zw_ad b ta tc v1 v2 adK adV) c = zw_ad b ta tc v1 v2 adK adV c := fun c hc => if_pos hc
  refine ⟨(s.heap.size, (fun k => (g k).1, fun k => (g k).2), zw_ad b ta tc v1 v2 adK adV), rfl, rfl, ⟨fun c hc => ?_, hg, fun w hw => ?_, fun i hi => ?_, ?_⟩, rfl, Nat.le_refl _, fun c hc => ?_, fun q hq => ?_⟩
  · show zw_ad b ta tc v1 v2 adK adV c < s.heap.size
    by_cases c0 : c = 0
    · rw [c0]; exact hbl
    by_cases c1 : c = 1
    · rw [c1]; exact ltT ta2
    by_cases c2 : c = 2
    · rw [c2]; exact ltT tc2
    by_cases c3 : c < 14
    · rw [show c = 3 + (c - 3) by omega, eK _ (by omega)]; exact ltK _ (by omega)
    by_cases c4 : c < 25
    · rw [show c = 14 + (c - 14) by omega, eV _ (by omega)]; exact ltT (hS.1 (c - 14) (by omega)).2.2.2
    · unfold zw_ad
      rw [if_neg c0, if_neg c1, if_neg c2, if_neg c3, if_neg c4, if_neg (by omega), if_neg (by omega)]; exact hbl
  · have h1 := hts w (List.mem_filter.mp hw).1
    have h2 := (List.mem_filter.mp hw).2
    exact va_tabs (by cases w <;> first | (simp [sv_isN] at h2; done) | rfl) rfl h1
  · rw [aE _ (by omega), eK i hi]
    exact vk_R.of (tbl _ _ (zw_8 i hi)) (hSe i hi)
  · obtain ⟨c, t, h1, h2, h3⟩ := Cond.castable_spec (show (Cond.castable "[I" "java/lang/Cloneable").before #[Value.ref b] s = true from tbl 763 _ (by decide +kernel))
    exact ⟨va_AO.of (tbl 253 _ (by decide +kernel)), va_AO.of (tbl 197 _ (by decide +kernel)), (show (Cond.arrayOver (.array .int)).before #[Value.ref b] s = true from tbl 126 _ (by decide +kernel)), (show (Cond.arrayOver (.array .long)).before #[Value.ref b] s = true from tbl 500 _ (by decide +kernel)), c, t, h1, h2, h3⟩
  · have hc : c < 64 := hc
    by_cases c0 : c = 0
    · subst c0
      unfold sv_cell
      rw [show sv_kd (sk_h (zw_f xs) L) 0 = 20 from rfl, if_neg (by decide), if_pos (by decide)]
      obtain ⟨cell, x1, x2, x3, x4, x5⟩ := hX
      refine ⟨cell, x1, x2, x3, ⟨?_, ?_⟩, fun j hj => x5 j hj, fun q => absurd q (by omega), trivial⟩
      · rw [x4]; exact Nat.le_refl _
      · rw [x4]; rfl
    by_cases c1 : c = 1
    · subst c1
      unfold sv_cell
      rw [show sv_kd (sk_h (zw_f xs) L) 1 = 20 from rfl, if_neg (by decide), if_pos (by decide)]
      exact zw_arr (c := 1) (t := ta) (N := 7) ta2 hc rfl rfl (fun j _ => rfl) (fun _ => trivial)
    by_cases c2 : c = 2
    · subst c2
      unfold sv_cell
      rw [show sv_kd (sk_h (zw_f xs) L) 2 = 20 from rfl, if_neg (by decide), if_pos (by decide)]
      exact zw_arr (c := 2) (t := tc) (N := 21) tc2 hc rfl rfl (fun j _ => rfl) (fun _ => trivial)
    by_cases c3 : c < 14
    · obtain ⟨i, hi, rfl⟩ : ∃ i, i < 11 ∧ c = 3 + i := ⟨c - 3, by omega, by omega⟩
      obtain ⟨k1, k2, k3, k4, k5⟩ := zw_11 i hi
      obtain ⟨s1, s2, s3, s4⟩ := hS.1 i hi
      unfold sv_cell
      rw [show sv_kd (sk_h (zw_f xs) L) (3 + i) = 30 from k1, if_neg (by decide), if_neg (by decide), if_pos rfl]
      unfold sv_str
      rw [aE _ (by omega), eK i hi]
      refine ⟨s1, ?_, ?_⟩
      · rw [show (sk_h (zw_f xs) L).2.2.1 (3 + i) 0 = some (14 + i) from k5]
        show va_OF _ _ _ (.ref (sv_ad _ (14 + i))) _ _ _ _
        rw [aE _ (by omega), eV i hi]
        exact s3
      · rw [show (sk_h (zw_f xs) L).1 (3 + i) 1 = 0 from ((zw_Fz xs).1 i hi).1]
        exact s2
    by_cases c4 : c < 25
    · obtain ⟨i, hi, rfl⟩ : ∃ i, i < 11 ∧ c = 14 + i := ⟨c - 14, by omega, by omega⟩
      obtain ⟨k1, k2, k3, k4, k5⟩ := zw_11 i hi
      obtain ⟨s1, s2, s3, s4⟩ := hS.1 i hi
      unfold sv_cell
      rw [show sv_kd (sk_h (zw_f xs) L) (14 + i) = 22 from k2, if_neg (by decide), if_pos (by decide)]
      refine zw_arr (c := 14 + i) (t := adV i) (N := zw_ln.getD i 0) s4 hc (by rw [aE _ hc, eV i hi]) ?_ (fun j hj => ?_) (fun _ => trivial)
      · rw [← k3]
        show ss_N (fun _ => L) (14 + i) = _
        unfold ss_N
        rw [if_neg (by omega), if_pos (by omega)]
      · show Value.int _ = Value.int (zw_f xs (14 + i) j)
        rw [zw_12 i hi j hj, ((zw_Fz xs).1 i hi).2 j (by rw [k4]; exact hj)]
    · unfold sv_cell
      rw [show sv_kd (sk_h (zw_f xs) L) c = 99 from zw_13 c hc (by omega), if_neg (by decide), if_neg (by decide), if_neg (by decide)]
      trivial
  · unfold sv_sta at hq
    rcases List.mem_cons.mp hq with rfl | hq
    · exact z1
    rcases List.mem_cons.mp hq with rfl | hq
    · exact z2
    rcases List.mem_cons.mp hq with rfl | hq
    · exact z3
    rcases List.mem_cons.mp hq with rfl | hq
    · exact z4
    exact absurd hq List.not_mem_nil
end ZWS
