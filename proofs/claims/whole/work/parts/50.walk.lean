/-! the model's walk through an expression -/
def sb_go (i : Nat) (x : Int32) (s : sv_S) (y : Int32) (u : sv_S) : Prop := ∀ m, F_Mo_takesE_b17 (m + i) x s = F_Mo_takesE_b17 m y u
def sb_end (i : Nat) (x : Int32) (s : sv_S) (r : Int32 × sv_S) : Prop := ∀ m, F_Mo_takesE_b17 (m + i) x s = some r
theorem sb_go_go {i j : Nat} {x y z : Int32} {s u w : sv_S} (h1 : sb_go i x s y u) (h2 : sb_go j y u z w) : sb_go (i + j) x s z w := fun m => by rw [show m + (i + j) = m + j + i by omega, h1, h2]
theorem sb_go_end {i j : Nat} {x y : Int32} {s u : sv_S} {r : Int32 × sv_S} (h1 : sb_go i x s y u) (h2 : sb_end j y u r) : sb_end (i + j) x s r := fun m => by rw [show m + (i + j) = m + j + i by omega, h1, h2]
section WK
variable {t : Nat → Int32} {n a base : Nat} {s : sv_S} {W : List Int32} {P : List Bool}
theorem sb_F202 {u : sv_S} (h : sb_fr sb_ZE s u) : u.1 202 = s.1 202 := by funext k; exact h.1 202 k rfl
theorem sb_E_open {c : Nat} (hc : c = 33 ∨ c = 40) (h : sb_ME t n a base W P s) (e : sb_nc t n a = sb_n c) (ho : sb_op W < 5) : ∃ u, sb_go 1 (sb_n 1) s (sb_n 1) u ∧ sb_ME t n (a + 1) base (sb_n c :: W) P u ∧ sb_fr sb_ZE s u := by
  have hlt := sb_nc_lt (by omega) e
  have hb := h.1.1
  have hW := h.2.1
  have ol := sb_op_le W
  refine ⟨ss_setI (ss_setI (ss_setI (ss_setI s 187 31 (sb_n (sb_op W + 1))) 203 W.length (sb_n c)) 187 29 (sb_n (W.length + 1))) 187 25 (sb_n (a + 1)), fun m => ?_, ?_, sb_fr_set (sb_fr_set (sb_fr_set (sb_fr_set (sb_fr_refl _ _) rfl) rfl) rfl) rfl⟩
  · simp only [F_Mo_takesE_b17]
    rw [sb_next_M h.1, Option.bind_some, e, if_neg (by decide)]
    have b38 : F_Mo_takesE_b38 (F_Mo_takesE_b17 m) (sb_n 1) (sb_n c) s = F_Mo_takesE_b17 m (sb_n 1) (ss_setI (ss_setI (ss_setI (ss_setI s 187 31 (sb_n (sb_op W + 1))) 203 W.length (sb_n c)) 187 29 (sb_n (W.length + 1))) 187 25 (sb_n (a + 1))) := by
      unfold F_Mo_takesE_b38
      have e1 : (ss_setI s 187 31 (sb_n (sb_op W + 1))).1 187 29 = sb_n W.length := (sb_set_ne (by omega)).trans h.2.2.1
      have e2 : (ss_setI (ss_setI s 187 31 (sb_n (sb_op W + 1))) 203 W.length (sb_n c)).1 187 29 = sb_n W.length := (sb_set_ne (by omega)).trans e1
      have e3 : (ss_setI (ss_setI (ss_setI s 187 31 (sb_n (sb_op W + 1))) 203 W.length (sb_n c)) 187 29 (sb_n (W.length + 1))).1 187 25 = sb_n a := by rw [sb_set_ne (by omega), sb_set_ne (by omega), sb_set_ne (by omega)]; exact h.1.2.2.2.1
      simp (disch := omega) only [sb_lit, sb_n_add, sb_n_mul, sb_n_ix, sb_n_lt, sb_n_le, sb_n_eq, sb_ib_n, h.2.2.2.2.2.2, ss_let]
      rw [if_neg (by omega)]
      simp (disch := omega) only [sb_lit, sb_n_add, sb_n_mul, sb_n_ix, sb_n_lt, sb_n_le, sb_n_eq, sb_ib_n, e1, e2, e3]
      rw [if_pos (by omega)]
    rcases hc with rfl | rfl
    · rw [if_pos (by decide)]; exact b38
    · rw [if_neg (by decide), if_pos (by decide)]; exact b38
  · refine ⟨⟨⟨hb.1, by omega, hb.2.2⟩, ?_, ?_, sb_set_eq, fun i hi => ?_⟩, ⟨by rw [List.length_cons]; omega, by omega⟩, ?_, ⟨?_, ?_⟩, ?_, ?_, ?_⟩
    · rw [sb_set_ne (by omega), sb_set_ne (by omega), sb_set_ne (by omega), sb_set_ne (by omega)]; exact h.1.2.1
    · rw [sb_set_ne (by omega), sb_set_ne (by omega), sb_set_ne (by omega), sb_set_ne (by omega)]; exact h.1.2.2.1
    · rw [sb_set_ne (by omega), sb_set_ne (by omega), sb_set_ne (by omega), sb_set_ne (by omega)]; exact h.1.2.2.2.2 i hi
    · rw [sb_set_ne (by omega), sb_set_eq, List.length_cons]
    · rw [sb_set_ne (by omega), sb_set_ne (by omega), sb_set_eq]
    · exact sb_sk_up _ (fun i hi => by rw [sb_set_ne (by omega), sb_set_ne (by omega), sb_set_ne (by omega), sb_set_ne (by omega)]) h.2.2.2.1
    · rw [sb_set_ne (by omega), sb_set_ne (by omega), sb_set_ne (by omega), sb_set_ne (by omega)]; exact h.2.2.2.2.1
    · exact sb_skb_up _ (fun i hi => by rw [sb_set_ne (by omega), sb_set_ne (by omega), sb_set_ne (by omega), sb_set_ne (by omega)]) h.2.2.2.2.2.1
    · rw [sb_set_ne (by omega), sb_set_ne (by omega), sb_set_ne (by omega), sb_set_eq]
      simp only [sb_op]
      rw [if_pos (by rcases hc with rfl | rfl; exact Or.inl rfl; exact Or.inr rfl), Nat.add_comm]
theorem sb_E_full {c : Nat} (hc : c = 33 ∨ c = 40) (h : sb_ME t n a base W P s) (e : sb_nc t n a = sb_n c) (ho : sb_op W = 5) : sb_end 1 (sb_n 1) s (sb_n 0, s) := by
  intro m
  have b38 : F_Mo_takesE_b38 (F_Mo_takesE_b17 m) (sb_n 1) (sb_n c) s = some (sb_n 0, s) := by
    unfold F_Mo_takesE_b38
    rw [h.2.2.2.2.2.2, ho, if_pos (by decide)]; rfl
  simp only [F_Mo_takesE_b17]
  rw [sb_next_M h.1, Option.bind_some, e, if_neg (by decide)]
  rcases hc with rfl | rfl
  · rw [if_pos (by decide)]; exact b38
  · rw [if_neg (by decide), if_pos (by decide)]; exact b38
/-- outcomes of a piece that begins where one is wanted -/
def sb_FT (x : Int32) (a : Nat) (s : sv_S) (p : sb_PR) (Z : Bool → sv_S → Prop) : Prop :=
  (p.1 = true → ∃ i v u, i ≤ p.2.1 - a ∧ sb_val (s.1 202) p.2.2 v ∧ sb_go i x s (sb_n 0) u ∧ sb_fr sb_ZE s u ∧ Z v u) ∧ (p.1 = false → ∃ i u, i ≤ p.2.1 - a + 1 ∧ sb_end i x s (sb_n 0, u) ∧ sb_fr sb_ZE s u ∧ u.1 187 25 = sb_n p.2.1)
theorem sb_E_test (h : sb_ME t n a base W P s) (e1 : sb_nc t n a ≠ sb_n 33) (e2 : sb_nc t n a ≠ sb_n 40) : sb_FT (sb_n 1) a s (sb_tst t n a) (fun v u => sb_ME t n (sb_tst t n a).2.1 base (sb_pn W v).2 ((sb_pn W v).1 :: P) u) := by
  obtain ⟨r, hr, r1, r2, r3, r4⟩ := sb_Mo_test h
  have g := sb_tst_gp (t := t) (n := n) (a := a) h.1.1.2.1
  unfold sb_gp at g
  have st : ∀ m, F_Mo_takesE_b17 (m + 1) (sb_n 1) s = if r.1 = 0 then some (sb_n 0, r.2) else F_Mo_takesE_b17 m (sb_n 0) r.2 := by
    intro m
    simp only [F_Mo_takesE_b17]
    rw [sb_next_M h.1, Option.bind_some, if_neg (by decide), if_neg (show ¬ sb_nc t n a = (33 : Int32) from e1), if_neg (show ¬ sb_nc t n a = (40 : Int32) from e2), hr, Option.bind_some]; rfl
  refine ⟨fun q => ?_, fun q => ?_⟩
  · obtain ⟨v, v1, v2⟩ := r3 q
    refine ⟨1, v, r.2, by have := g.2.2.2 q; omega, v1, fun m => ?_, r2, v2⟩
    rw [st, if_neg]; rw [r1, q]; decide
  · refine ⟨1, r.2, by omega, fun m => ?_, r2, r4 q⟩
    rw [st, if_pos]; rw [r1, q]; rfl
/-- a sign between two -/
theorem sb_E_sign {c : Nat} {v : Bool} (hc : c = 38 ∨ c = 124) (hM : sb_MT t n a base s) (e : sb_nc t n a = sb_n c) (h : sb_W (F_Mo_settle (sb_n c) s) (fun u => sb_ME t n a base W (v :: P) u ∧ sb_fr sb_ZE s u)) : ∃ u, sb_go 1 (sb_n 0) s (sb_n 1) u ∧ sb_ME t n (a + 1) base (sb_n c :: W) (v :: P) u ∧ sb_fr sb_ZE s u := by
  obtain ⟨w, hw, h, hf⟩ := h
  have hlt := sb_nc_lt (by omega) e
  have hb := h.1.1
  have hW := h.2.1
  refine ⟨ss_setI (ss_setI (ss_setI w 203 W.length (sb_n c)) 187 29 (sb_n (W.length + 1))) 187 25 (sb_n (a + 1)), fun m => ?_, ?_, sb_fr_set (sb_fr_set (sb_fr_set hf rfl) rfl) rfl⟩
  · simp only [F_Mo_takesE_b17]
    rw [sb_next_M hM, Option.bind_some, e, if_pos (by decide)]
    have b117 : F_Mo_takesE_b117 (F_Mo_takesE_b17 m) (sb_n c) s = F_Mo_takesE_b17 m (sb_n 1) (ss_setI (ss_setI (ss_setI w 203 W.length (sb_n c)) 187 29 (sb_n (W.length + 1))) 187 25 (sb_n (a + 1))) := by
      unfold F_Mo_takesE_b117
      rw [hw, Option.bind_some]
      have e2 : (ss_setI w 203 W.length (sb_n c)).1 187 29 = sb_n W.length := (sb_set_ne (by omega)).trans h.2.2.1
      have e3 : (ss_setI (ss_setI w 203 W.length (sb_n c)) 187 29 (sb_n (W.length + 1))).1 187 25 = sb_n a := by rw [sb_set_ne (by omega), sb_set_ne (by omega)]; exact h.1.2.2.2.1
      simp (disch := omega) only [sb_lit, sb_n_add, sb_n_mul, sb_n_ix, sb_n_lt, sb_n_le, sb_n_eq, sb_ib_n, h.2.2.1, ss_let, e2, e3]
      rw [if_pos (by omega)]
    rcases hc with rfl | rfl
    · rw [if_pos (by decide)]; exact b117
    · rw [if_neg (by decide), if_pos (by decide)]; exact b117
  · refine ⟨⟨⟨hb.1, by omega, hb.2.2⟩, ?_, ?_, sb_set_eq, fun i hi => ?_⟩, ⟨by rw [List.length_cons]; omega, by omega⟩, ?_, ⟨?_, ?_⟩, ?_, ?_, ?_⟩
    · rw [sb_set_ne (by omega), sb_set_ne (by omega), sb_set_ne (by omega)]; exact h.1.2.1
    · rw [sb_set_ne (by omega), sb_set_ne (by omega), sb_set_ne (by omega)]; exact h.1.2.2.1
    · rw [sb_set_ne (by omega), sb_set_ne (by omega), sb_set_ne (by omega)]; exact h.1.2.2.2.2 i hi
    · rw [sb_set_ne (by omega), sb_set_eq, List.length_cons]
    · rw [sb_set_ne (by omega), sb_set_ne (by omega), sb_set_eq]
    · exact sb_sk_up _ (fun i hi => by rw [sb_set_ne (by omega), sb_set_ne (by omega), sb_set_ne (by omega)]) h.2.2.2.1
    · rw [sb_set_ne (by omega), sb_set_ne (by omega), sb_set_ne (by omega)]; exact h.2.2.2.2.1
    · exact sb_skb_up _ (fun i hi => by rw [sb_set_ne (by omega), sb_set_ne (by omega), sb_set_ne (by omega)]) h.2.2.2.2.2.1
    · rw [sb_set_ne (by omega), sb_set_ne (by omega), sb_set_ne (by omega)]
      simp only [sb_op]
      rw [if_neg (by rcases hc with rfl | rfl <;> decide), Nat.zero_add]; exact h.2.2.2.2.2.2
/-- the end of a bracket -/
theorem sb_E_close {v : Bool} (hM : sb_MT t n a base s) (e : sb_nc t n a = sb_n 41) (h : sb_W (F_Mo_settle (sb_n 124) s) (fun u => sb_ME t n a base (sb_n 40 :: W) (v :: P) u ∧ sb_fr sb_ZE s u)) : ∃ u, sb_go 1 (sb_n 0) s (sb_n 0) u ∧ sb_ME t n (a + 1) base (sb_pn W v).2 ((sb_pn W v).1 :: P) u ∧ sb_fr sb_ZE s u := by
  obtain ⟨w, hw, h, hf⟩ := h
  have hlt := sb_nc_lt (by omega) e
  have hb := h.1.1
  have hW := h.2.1
  have h29 := h.2.2.1
  have h30 := h.2.2.2.2.1
  rw [List.length_cons] at h29 h30
  rw [List.length_cons, List.length_cons] at hW
  have ol := sb_op_le W
  have h31 : w.1 187 31 = sb_n (sb_op W + 1) := by rw [h.2.2.2.2.2.2]; simp only [sb_op]; rw [if_pos (by decide), Nat.add_comm]
  have E1 : (ss_setI w 187 29 (sb_n W.length)).1 187 31 = sb_n (sb_op W + 1) := (sb_set_ne (by omega)).trans h31
  have E2 : (ss_setI (ss_setI w 187 29 (sb_n W.length)) 187 31 (sb_n (sb_op W))).1 187 30 = sb_n (P.length + 1) := by rw [sb_set_ne (by omega), sb_set_ne (by omega)]; exact h30
  have E3 : (ss_setI (ss_setI (ss_setI w 187 29 (sb_n W.length)) 187 31 (sb_n (sb_op W))) 187 30 (sb_n P.length)).1 187 25 = sb_n a := by rw [sb_set_ne (by omega), sb_set_ne (by omega), sb_set_ne (by omega)]; exact h.1.2.2.2.1
  have hu : sb_ME t n (a + 1) base W P (ss_setI (ss_setI (ss_setI (ss_setI w 187 29 (sb_n W.length)) 187 31 (sb_n (sb_op W))) 187 30 (sb_n P.length)) 187 25 (sb_n (a + 1))) := by
    refine ⟨⟨⟨hb.1, by omega, hb.2.2⟩, ?_, ?_, sb_set_eq, fun i hi => ?_⟩, ⟨by omega, by omega⟩, ?_, ?_, ?_, ?_, ?_⟩
    · rw [sb_set_ne (by omega), sb_set_ne (by omega), sb_set_ne (by omega), sb_set_ne (by omega)]; exact h.1.2.1
    · rw [sb_set_ne (by omega), sb_set_ne (by omega), sb_set_ne (by omega), sb_set_ne (by omega)]; exact h.1.2.2.1
    · rw [sb_set_ne (by omega), sb_set_ne (by omega), sb_set_ne (by omega), sb_set_ne (by omega)]; exact h.1.2.2.2.2 i hi
    · rw [sb_set_ne (by omega), sb_set_ne (by omega), sb_set_ne (by omega), sb_set_eq]
    · exact sb_sk_up _ (fun i hi => by rw [sb_set_ne (by omega), sb_set_ne (by omega), sb_set_ne (by omega), sb_set_ne (by omega)]) h.2.2.2.1.2
    · rw [sb_set_ne (by omega), sb_set_eq]
    · exact sb_skb_up _ (fun i hi => by rw [sb_set_ne (by omega), sb_set_ne (by omega), sb_set_ne (by omega), sb_set_ne (by omega)]) h.2.2.2.2.2.1.2
    · rw [sb_set_ne (by omega), sb_set_ne (by omega), sb_set_eq]
  have hv : (ss_setI (ss_setI (ss_setI (ss_setI w 187 29 (sb_n W.length)) 187 31 (sb_n (sb_op W))) 187 30 (sb_n P.length)) 187 25 (sb_n (a + 1))).1 204 P.length = sb_b v := by rw [sb_set_ne (by omega), sb_set_ne (by omega), sb_set_ne (by omega), sb_set_ne (by omega)]; exact h.2.2.2.2.2.1.1
  have h30' : (ss_setI (ss_setI (ss_setI (ss_setI w 187 29 (sb_n W.length)) 187 31 (sb_n (sb_op W))) 187 30 (sb_n P.length)) 187 25 (sb_n (a + 1))).1 187 30 = sb_n P.length := by rw [sb_set_ne (by omega), sb_set_eq]
  have hfu : sb_fr sb_ZE s (ss_setI (ss_setI (ss_setI (ss_setI w 187 29 (sb_n W.length)) 187 31 (sb_n (sb_op W))) 187 30 (sb_n P.length)) 187 25 (sb_n (a + 1))) := sb_fr_set (sb_fr_set (sb_fr_set (sb_fr_set hf rfl) rfl) rfl) rfl
  obtain ⟨u, hu1, hu2, hu3⟩ := sb_Mo_push (s := s) W ss_F v _ (by unfold ss_F; omega) (by omega) hu hfu
  refine ⟨u, fun m => ?_, hu2, hu3⟩
  simp only [F_Mo_takesE_b17]
  rw [sb_next_M hM, Option.bind_some, e, if_pos (by decide), if_neg (by decide), if_neg (by decide), show (124 : Int32) = sb_n 124 from rfl, hw, Option.bind_some, h29, if_neg (by rw [show (0 : Int32) = sb_n 0 from rfl, sb_n_eq (by omega) (by omega)]; omega), if_pos (by decide)]
  have e1a : sb_n a + (1 : Int32) = sb_n (a + 1) := sb_n_add a 1
  simp (disch := omega) only [ss_let, sb_sub1, E1, E2, E3, e1a, h30', sb_ib_n, sb_n_ix, hv]
  rw [if_pos (by omega)]
  show (F_Mo_push_b2 ss_F (sb_b v) _).bind _ = _
  rw [hu1, Option.bind_some]
/-- neither sign: the bracket isn't closed, or all is read -/
theorem sb_E_bad {v : Bool} (hM : sb_MT t n a base s) (e1 : sb_nc t n a ≠ sb_n 38) (e2 : sb_nc t n a ≠ sb_n 124) (e3 : sb_nc t n a ≠ sb_n 41) (h : sb_W (F_Mo_settle (sb_n 124) s) (fun u => sb_ME t n a base (sb_n 40 :: W) (v :: P) u ∧ sb_fr sb_ZE s u)) : ∃ u, sb_end 1 (sb_n 0) s (sb_n 0, u) ∧ sb_fr sb_ZE s u ∧ u.1 187 25 = sb_n a := by
  obtain ⟨w, hw, h, hf⟩ := h
  have h29 := h.2.2.1
  have hb := h.1.1
  have hW := h.2.1
  rw [List.length_cons] at h29 hW
  refine ⟨w, fun m => ?_, hf, h.1.2.2.2.1⟩
  simp only [F_Mo_takesE_b17]
  rw [sb_next_M hM, Option.bind_some, if_pos (by decide), if_neg (show ¬ sb_nc t n a = (38 : Int32) from e1), if_neg (show ¬ sb_nc t n a = (124 : Int32) from e2), show (124 : Int32) = sb_n 124 from rfl, hw, Option.bind_some, h29, if_neg (by rw [show (0 : Int32) = sb_n 0 from rfl, sb_n_eq (by omega) (by omega)]; omega), if_neg (show ¬ sb_nc t n a = (41 : Int32) from e3)]
  rfl
theorem sb_E_done {v : Bool} (hM : sb_MT t n a base s) (e1 : sb_nc t n a ≠ sb_n 38) (e2 : sb_nc t n a ≠ sb_n 124) (h : sb_W (F_Mo_settle (sb_n 124) s) (fun u => sb_ME t n a base [] (v :: P) u ∧ sb_fr sb_ZE s u)) : ∃ u, sb_end 1 (sb_n 0) s (sb_n 1, u) ∧ sb_fr sb_ZE s u ∧ sb_ME t n a base [] (v :: P) u := by
  obtain ⟨w, hw, h, hf⟩ := h
  have h29 := h.2.2.1
  refine ⟨w, fun m => ?_, hf, h⟩
  simp only [F_Mo_takesE_b17]
  rw [sb_next_M hM, Option.bind_some, if_pos (by decide), if_neg (show ¬ sb_nc t n a = (38 : Int32) from e1), if_neg (show ¬ sb_nc t n a = (124 : Int32) from e2), show (124 : Int32) = sb_n 124 from rfl, hw, Option.bind_some, h29, if_pos (by decide)]
  rfl
end WK
