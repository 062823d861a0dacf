/-! the model's walk through an expression -/
def zb_go (i : Nat) (x : Int32) (s : sv_S) (y : Int32) (u : sv_S) : Prop := ∀ m, F_Mo_takesE_b17 (m + i) x s = F_Mo_takesE_b17 m y u
def zb_end (i : Nat) (x : Int32) (s : sv_S) (r : Int32 × sv_S) : Prop := ∀ m, F_Mo_takesE_b17 (m + i) x s = some r
theorem zb_go_go {i j : Nat} {x y z : Int32} {s u w : sv_S} (h1 : zb_go i x s y u) (h2 : zb_go j y u z w) : zb_go (i + j) x s z w := fun m => by rw [show m + (i + j) = m + j + i by omega, h1, h2]
theorem zb_go_end {i j : Nat} {x y : Int32} {s u : sv_S} {r : Int32 × sv_S} (h1 : zb_go i x s y u) (h2 : zb_end j y u r) : zb_end (i + j) x s r := fun m => by rw [show m + (i + j) = m + j + i by omega, h1, h2]
section WK
variable {t : Nat → Int32} {n a base : Nat} {s : sv_S} {W : List Int32} {P : List Bool}
theorem zb_F202 {u : sv_S} (h : zb_fr zb_ZE s u) : u.1 202 = s.1 202 := by funext k; exact h.1 202 k rfl
theorem zb_E_open {c : Nat} (hc : c = 33 ∨ c = 40) (h : zb_ME t n a base W P s) (e : zb_nc t n a = zb_n c) (ho : zb_op W < 5) : ∃ u, zb_go 1 (zb_n 1) s (zb_n 1) u ∧ zb_ME t n (a + 1) base (zb_n c :: W) P u ∧ zb_fr zb_ZE s u := by
  have hlt := zb_nc_lt (by omega) e
  have hb := h.1.1
  have hW := h.2.1
  have ol := zb_op_le W
  refine ⟨ss_setI (ss_setI (ss_setI (ss_setI s 187 31 (zb_n (zb_op W + 1))) 203 W.length (zb_n c)) 187 29 (zb_n (W.length + 1))) 187 25 (zb_n (a + 1)), fun m => ?_, ?_, zb_fr_set (zb_fr_set (zb_fr_set (zb_fr_set (zb_fr_refl _ _) rfl) rfl) rfl) rfl⟩
  · simp only [F_Mo_takesE_b17]
    rw [zb_next_M h.1, Option.bind_some, e, if_neg (by decide)]
    have b38 : F_Mo_takesE_b38 (F_Mo_takesE_b17 m) (zb_n 1) (zb_n c) s = F_Mo_takesE_b17 m (zb_n 1) (ss_setI (ss_setI (ss_setI (ss_setI s 187 31 (zb_n (zb_op W + 1))) 203 W.length (zb_n c)) 187 29 (zb_n (W.length + 1))) 187 25 (zb_n (a + 1))) := by
      unfold F_Mo_takesE_b38
      have e1 : (ss_setI s 187 31 (zb_n (zb_op W + 1))).1 187 29 = zb_n W.length := (zb_set_ne (by omega)).trans h.2.2.1
      have e2 : (ss_setI (ss_setI s 187 31 (zb_n (zb_op W + 1))) 203 W.length (zb_n c)).1 187 29 = zb_n W.length := (zb_set_ne (by omega)).trans e1
      have e3 : (ss_setI (ss_setI (ss_setI s 187 31 (zb_n (zb_op W + 1))) 203 W.length (zb_n c)) 187 29 (zb_n (W.length + 1))).1 187 25 = zb_n a := by rw [zb_set_ne (by omega), zb_set_ne (by omega), zb_set_ne (by omega)]; exact h.1.2.2.2.1
      simp (disch := omega) only [zb_lit, zb_n_add, zb_n_mul, zb_n_ix, zb_n_lt, zb_n_le, zb_n_eq, zb_ib_n, h.2.2.2.2.2.2, ss_let]
      rw [if_neg (by omega)]
      simp (disch := omega) only [zb_lit, zb_n_add, zb_n_mul, zb_n_ix, zb_n_lt, zb_n_le, zb_n_eq, zb_ib_n, e1, e2, e3]
      rw [if_pos (by omega)]
    rcases hc with rfl | rfl
    · rw [if_pos (by decide)]; exact b38
    · rw [if_neg (by decide), if_pos (by decide)]; exact b38
  · refine ⟨⟨⟨hb.1, by omega, hb.2.2⟩, ?_, ?_, zb_set_eq, fun i hi => ?_⟩, ⟨by rw [List.length_cons]; omega, by omega⟩, ?_, ⟨?_, ?_⟩, ?_, ?_, ?_⟩
    · rw [zb_set_ne (by omega), zb_set_ne (by omega), zb_set_ne (by omega), zb_set_ne (by omega)]; exact h.1.2.1
    · rw [zb_set_ne (by omega), zb_set_ne (by omega), zb_set_ne (by omega), zb_set_ne (by omega)]; exact h.1.2.2.1
    · rw [zb_set_ne (by omega), zb_set_ne (by omega), zb_set_ne (by omega), zb_set_ne (by omega)]; exact h.1.2.2.2.2 i hi
    · rw [zb_set_ne (by omega), zb_set_eq, List.length_cons]
    · rw [zb_set_ne (by omega), zb_set_ne (by omega), zb_set_eq]
    · exact zb_sk_up _ (fun i hi => by rw [zb_set_ne (by omega), zb_set_ne (by omega), zb_set_ne (by omega), zb_set_ne (by omega)]) h.2.2.2.1
    · rw [zb_set_ne (by omega), zb_set_ne (by omega), zb_set_ne (by omega), zb_set_ne (by omega)]; exact h.2.2.2.2.1
    · exact zb_skb_up _ (fun i hi => by rw [zb_set_ne (by omega), zb_set_ne (by omega), zb_set_ne (by omega), zb_set_ne (by omega)]) h.2.2.2.2.2.1
    · rw [zb_set_ne (by omega), zb_set_ne (by omega), zb_set_ne (by omega), zb_set_eq]
      simp only [zb_op]
      rw [if_pos (by rcases hc with rfl | rfl; exact Or.inl rfl; exact Or.inr rfl), Nat.add_comm]
theorem zb_E_full {c : Nat} (hc : c = 33 ∨ c = 40) (h : zb_ME t n a base W P s) (e : zb_nc t n a = zb_n c) (ho : zb_op W = 5) : zb_end 1 (zb_n 1) s (zb_n 0, s) := by
  intro m
  have b38 : F_Mo_takesE_b38 (F_Mo_takesE_b17 m) (zb_n 1) (zb_n c) s = some (zb_n 0, s) := by
    unfold F_Mo_takesE_b38
    rw [h.2.2.2.2.2.2, ho, if_pos (by decide)]; rfl
  simp only [F_Mo_takesE_b17]
  rw [zb_next_M h.1, Option.bind_some, e, if_neg (by decide)]
  rcases hc with rfl | rfl
  · rw [if_pos (by decide)]; exact b38
  · rw [if_neg (by decide), if_pos (by decide)]; exact b38
/-- outcomes of a piece that begins where one is wanted -/
def zb_FT (x : Int32) (a : Nat) (s : sv_S) (p : zb_PR) (Z : Bool → sv_S → Prop) : Prop :=
  (p.1 = true → ∃ i v u, i ≤ p.2.1 - a ∧ zb_val (s.1 202) p.2.2 v ∧ zb_go i x s (zb_n 0) u ∧ zb_fr zb_ZE s u ∧ Z v u) ∧ (p.1 = false → ∃ i u, i ≤ p.2.1 - a + 1 ∧ zb_end i x s (zb_n 0, u) ∧ zb_fr zb_ZE s u ∧ u.1 187 25 = zb_n p.2.1)
theorem zb_E_test (h : zb_ME t n a base W P s) (e1 : zb_nc t n a ≠ zb_n 33) (e2 : zb_nc t n a ≠ zb_n 40) : zb_FT (zb_n 1) a s (zb_tst t n a) (fun v u => zb_ME t n (zb_tst t n a).2.1 base (zb_pn W v).2 ((zb_pn W v).1 :: P) u) := by
  obtain ⟨r, hr, r1, r2, r3, r4⟩ := zb_Mo_test h
  have g := zb_tst_gp (t := t) (n := n) (a := a) h.1.1.2.1
  unfold zb_gp at g
  have st : ∀ m, F_Mo_takesE_b17 (m + 1) (zb_n 1) s = if r.1 = 0 then some (zb_n 0, r.2) else F_Mo_takesE_b17 m (zb_n 0) r.2 := by
    intro m
    simp only [F_Mo_takesE_b17]
    rw [zb_next_M h.1, Option.bind_some, if_neg (by decide), if_neg (show ¬ zb_nc t n a = (33 : Int32) from e1), if_neg (show ¬ zb_nc t n a = (40 : Int32) from e2), hr, Option.bind_some]; rfl
  refine ⟨fun q => ?_, fun q => ?_⟩
  · obtain ⟨v, v1, v2⟩ := r3 q
    refine ⟨1, v, r.2, by have := g.2.2.2 q; omega, v1, fun m => ?_, r2, v2⟩
    rw [st, if_neg]; rw [r1, q]; decide
  · refine ⟨1, r.2, by omega, fun m => ?_, r2, r4 q⟩
    rw [st, if_pos]; rw [r1, q]; rfl
/-- a sign between two -/
theorem zb_E_sign {c : Nat} {v : Bool} (hc : c = 38 ∨ c = 124) (hM : zb_MT t n a base s) (e : zb_nc t n a = zb_n c) (h : zb_W (F_Mo_settle (zb_n c) s) (fun u => zb_ME t n a base W (v :: P) u ∧ zb_fr zb_ZE s u)) : ∃ u, zb_go 1 (zb_n 0) s (zb_n 1) u ∧ zb_ME t n (a + 1) base (zb_n c :: W) (v :: P) u ∧ zb_fr zb_ZE s u := by
  obtain ⟨w, hw, h, hf⟩ := h
  have hlt := zb_nc_lt (by omega) e
  have hb := h.1.1
  have hW := h.2.1
  refine ⟨ss_setI (ss_setI (ss_setI w 203 W.length (zb_n c)) 187 29 (zb_n (W.length + 1))) 187 25 (zb_n (a + 1)), fun m => ?_, ?_, zb_fr_set (zb_fr_set (zb_fr_set hf rfl) rfl) rfl⟩
  · simp only [F_Mo_takesE_b17]
    rw [zb_next_M hM, Option.bind_some, e, if_pos (by decide)]
    have b117 : F_Mo_takesE_b117 (F_Mo_takesE_b17 m) (zb_n c) s = F_Mo_takesE_b17 m (zb_n 1) (ss_setI (ss_setI (ss_setI w 203 W.length (zb_n c)) 187 29 (zb_n (W.length + 1))) 187 25 (zb_n (a + 1))) := by
      unfold F_Mo_takesE_b117
      rw [hw, Option.bind_some]
      have e2 : (ss_setI w 203 W.length (zb_n c)).1 187 29 = zb_n W.length := (zb_set_ne (by omega)).trans h.2.2.1
      have e3 : (ss_setI (ss_setI w 203 W.length (zb_n c)) 187 29 (zb_n (W.length + 1))).1 187 25 = zb_n a := by rw [zb_set_ne (by omega), zb_set_ne (by omega)]; exact h.1.2.2.2.1
      simp (disch := omega) only [zb_lit, zb_n_add, zb_n_mul, zb_n_ix, zb_n_lt, zb_n_le, zb_n_eq, zb_ib_n, h.2.2.1, ss_let, e2, e3]
      rw [if_pos (by omega)]
    rcases hc with rfl | rfl
    · rw [if_pos (by decide)]; exact b117
    · rw [if_neg (by decide), if_pos (by decide)]; exact b117
  · refine ⟨⟨⟨hb.1, by omega, hb.2.2⟩, ?_, ?_, zb_set_eq, fun i hi => ?_⟩, ⟨by rw [List.length_cons]; omega, by omega⟩, ?_, ⟨?_, ?_⟩, ?_, ?_, ?_⟩
    · rw [zb_set_ne (by omega), zb_set_ne (by omega), zb_set_ne (by omega)]; exact h.1.2.1
    · rw [zb_set_ne (by omega), zb_set_ne (by omega), zb_set_ne (by omega)]; exact h.1.2.2.1
    · rw [zb_set_ne (by omega), zb_set_ne (by omega), zb_set_ne (by omega)]; exact h.1.2.2.2.2 i hi
    · rw [zb_set_ne (by omega), zb_set_eq, List.length_cons]
    · rw [zb_set_ne (by omega), zb_set_ne (by omega), zb_set_eq]
    · exact zb_sk_up _ (fun i hi => by rw [zb_set_ne (by omega), zb_set_ne (by omega), zb_set_ne (by omega)]) h.2.2.2.1
    · rw [zb_set_ne (by omega), zb_set_ne (by omega), zb_set_ne (by omega)]; exact h.2.2.2.2.1
    · exact zb_skb_up _ (fun i hi => by rw [zb_set_ne (by omega), zb_set_ne (by omega), zb_set_ne (by omega)]) h.2.2.2.2.2.1
    · rw [zb_set_ne (by omega), zb_set_ne (by omega), zb_set_ne (by omega)]
      simp only [zb_op]
      rw [if_neg (by rcases hc with rfl | rfl <;> decide), Nat.zero_add]; exact h.2.2.2.2.2.2
/-- the end of a bracket -/
theorem zb_E_close {v : Bool} (hM : zb_MT t n a base s) (e : zb_nc t n a = zb_n 41) (h : zb_W (F_Mo_settle (zb_n 124) s) (fun u => zb_ME t n a base (zb_n 40 :: W) (v :: P) u ∧ zb_fr zb_ZE s u)) : ∃ u, zb_go 1 (zb_n 0) s (zb_n 0) u ∧ zb_ME t n (a + 1) base (zb_pn W v).2 ((zb_pn W v).1 :: P) u ∧ zb_fr zb_ZE s u := by
  obtain ⟨w, hw, h, hf⟩ := h
  have hlt := zb_nc_lt (by omega) e
  have hb := h.1.1
  have hW := h.2.1
  have h29 := h.2.2.1
  have h30 := h.2.2.2.2.1
  rw [List.length_cons] at h29 h30
  rw [List.length_cons, List.length_cons] at hW
  have ol := zb_op_le W
  have h31 : w.1 187 31 = zb_n (zb_op W + 1) := by rw [h.2.2.2.2.2.2]; simp only [zb_op]; rw [if_pos (by decide), Nat.add_comm]
  have E1 : (ss_setI w 187 29 (zb_n W.length)).1 187 31 = zb_n (zb_op W + 1) := (zb_set_ne (by omega)).trans h31
  have E2 : (ss_setI (ss_setI w 187 29 (zb_n W.length)) 187 31 (zb_n (zb_op W))).1 187 30 = zb_n (P.length + 1) := by rw [zb_set_ne (by omega), zb_set_ne (by omega)]; exact h30
  have E3 : (ss_setI (ss_setI (ss_setI w 187 29 (zb_n W.length)) 187 31 (zb_n (zb_op W))) 187 30 (zb_n P.length)).1 187 25 = zb_n a := by rw [zb_set_ne (by omega), zb_set_ne (by omega), zb_set_ne (by omega)]; exact h.1.2.2.2.1
  have hu : zb_ME t n (a + 1) base W P (ss_setI (ss_setI (ss_setI (ss_setI w 187 29 (zb_n W.length)) 187 31 (zb_n (zb_op W))) 187 30 (zb_n P.length)) 187 25 (zb_n (a + 1))) := by
    refine ⟨⟨⟨hb.1, by omega, hb.2.2⟩, ?_, ?_, zb_set_eq, fun i hi => ?_⟩, ⟨by omega, by omega⟩, ?_, ?_, ?_, ?_, ?_⟩
    · rw [zb_set_ne (by omega), zb_set_ne (by omega), zb_set_ne (by omega), zb_set_ne (by omega)]; exact h.1.2.1
    · rw [zb_set_ne (by omega), zb_set_ne (by omega), zb_set_ne (by omega), zb_set_ne (by omega)]; exact h.1.2.2.1
    · rw [zb_set_ne (by omega), zb_set_ne (by omega), zb_set_ne (by omega), zb_set_ne (by omega)]; exact h.1.2.2.2.2 i hi
    · rw [zb_set_ne (by omega), zb_set_ne (by omega), zb_set_ne (by omega), zb_set_eq]
    · exact zb_sk_up _ (fun i hi => by rw [zb_set_ne (by omega), zb_set_ne (by omega), zb_set_ne (by omega), zb_set_ne (by omega)]) h.2.2.2.1.2
    · rw [zb_set_ne (by omega), zb_set_eq]
    · exact zb_skb_up _ (fun i hi => by rw [zb_set_ne (by omega), zb_set_ne (by omega), zb_set_ne (by omega), zb_set_ne (by omega)]) h.2.2.2.2.2.1.2
    · rw [zb_set_ne (by omega), zb_set_ne (by omega), zb_set_eq]
  have hv : (ss_setI (ss_setI (ss_setI (ss_setI w 187 29 (zb_n W.length)) 187 31 (zb_n (zb_op W))) 187 30 (zb_n P.length)) 187 25 (zb_n (a + 1))).1 204 P.length = zb_b v := by rw [zb_set_ne (by omega), zb_set_ne (by omega), zb_set_ne (by omega), zb_set_ne (by omega)]; exact h.2.2.2.2.2.1.1
  have h30' : (ss_setI (ss_setI (ss_setI (ss_setI w 187 29 (zb_n W.length)) 187 31 (zb_n (zb_op W))) 187 30 (zb_n P.length)) 187 25 (zb_n (a + 1))).1 187 30 = zb_n P.length := by rw [zb_set_ne (by omega), zb_set_eq]
  have hfu : zb_fr zb_ZE s (ss_setI (ss_setI (ss_setI (ss_setI w 187 29 (zb_n W.length)) 187 31 (zb_n (zb_op W))) 187 30 (zb_n P.length)) 187 25 (zb_n (a + 1))) := zb_fr_set (zb_fr_set (zb_fr_set (zb_fr_set hf rfl) rfl) rfl) rfl
  obtain ⟨u, hu1, hu2, hu3⟩ := zb_Mo_push (s := s) W ss_F v _ (by unfold ss_F; omega) (by omega) hu hfu
  refine ⟨u, fun m => ?_, hu2, hu3⟩
  simp only [F_Mo_takesE_b17]
  rw [zb_next_M hM, Option.bind_some, e, if_pos (by decide), if_neg (by decide), if_neg (by decide), show (124 : Int32) = zb_n 124 from rfl, hw, Option.bind_some, h29, if_neg (by rw [show (0 : Int32) = zb_n 0 from rfl, zb_n_eq (by omega) (by omega)]; omega), if_pos (by decide)]
  have e1a : zb_n a + (1 : Int32) = zb_n (a + 1) := zb_n_add a 1
  simp (disch := omega) only [ss_let, zb_sub1, E1, E2, E3, e1a, h30', zb_ib_n, zb_n_ix, hv]
  rw [if_pos (by omega)]
  show (F_Mo_push_b2 ss_F (zb_b v) _).bind _ = _
  rw [hu1, Option.bind_some]
/-- neither sign: the bracket isn't closed, or all is read -/
theorem zb_E_bad {v : Bool} (hM : zb_MT t n a base s) (e1 : zb_nc t n a ≠ zb_n 38) (e2 : zb_nc t n a ≠ zb_n 124) (e3 : zb_nc t n a ≠ zb_n 41) (h : zb_W (F_Mo_settle (zb_n 124) s) (fun u => zb_ME t n a base (zb_n 40 :: W) (v :: P) u ∧ zb_fr zb_ZE s u)) : ∃ u, zb_end 1 (zb_n 0) s (zb_n 0, u) ∧ zb_fr zb_ZE s u ∧ u.1 187 25 = zb_n a := by
  obtain ⟨w, hw, h, hf⟩ := h
  have h29 := h.2.2.1
  have hb := h.1.1
  have hW := h.2.1
  rw [List.length_cons] at h29 hW
  refine ⟨w, fun m => ?_, hf, h.1.2.2.2.1⟩
  simp only [F_Mo_takesE_b17]
  rw [zb_next_M hM, Option.bind_some, if_pos (by decide), if_neg (show ¬ zb_nc t n a = (38 : Int32) from e1), if_neg (show ¬ zb_nc t n a = (124 : Int32) from e2), show (124 : Int32) = zb_n 124 from rfl, hw, Option.bind_some, h29, if_neg (by rw [show (0 : Int32) = zb_n 0 from rfl, zb_n_eq (by omega) (by omega)]; omega), if_neg (show ¬ zb_nc t n a = (41 : Int32) from e3)]
  rfl
theorem zb_E_done {v : Bool} (hM : zb_MT t n a base s) (e1 : zb_nc t n a ≠ zb_n 38) (e2 : zb_nc t n a ≠ zb_n 124) (h : zb_W (F_Mo_settle (zb_n 124) s) (fun u => zb_ME t n a base [] (v :: P) u ∧ zb_fr zb_ZE s u)) : ∃ u, zb_end 1 (zb_n 0) s (zb_n 1, u) ∧ zb_fr zb_ZE s u ∧ zb_ME t n a base [] (v :: P) u := by
  obtain ⟨w, hw, h, hf⟩ := h
  have h29 := h.2.2.1
  refine ⟨w, fun m => ?_, hf, h⟩
  simp only [F_Mo_takesE_b17]
  rw [zb_next_M hM, Option.bind_some, if_pos (by decide), if_neg (show ¬ zb_nc t n a = (38 : Int32) from e1), if_neg (show ¬ zb_nc t n a = (124 : Int32) from e2), show (124 : Int32) = zb_n 124 from rfl, hw, Option.bind_some, h29, if_pos (by decide)]
  rfl
end WK
