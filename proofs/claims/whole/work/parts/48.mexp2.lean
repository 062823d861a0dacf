/-! settling, tests, and the model's walk through an expression -/
section MS
variable {t : Nat → Int32} {n a base : Nat} {s : sv_S} {W : List Int32} {P : List Bool}
theorem zb_ME_fr {L : List Nat} {u : sv_S} (h : zb_ME t n a base W P s) (hf : zb_fr L s u) (hL : [187023, 187024, 187025, 197, 187029, 187030, 187031, 203, 204].all (fun x => !L.contains x) = true) : zb_ME t n a base W P u := by
  have k : ∀ x, x ∈ [187023, 187024, 187025, 197, 187029, 187030, 187031, 203, 204] → L.contains x = false := fun x hx => by have := List.all_eq_true.mp hL x hx; simpa using this
  refine ⟨⟨h.1.1, ?_, ?_, ?_, fun i hi => ?_⟩, h.2.1, ?_, ?_, ?_, ?_, ?_⟩
  · rw [hf.1 187 23 (k 187023 (by decide))]; exact h.1.2.1
  · rw [hf.1 187 24 (k 187024 (by decide))]; exact h.1.2.2.1
  · rw [hf.1 187 25 (k 187025 (by decide))]; exact h.1.2.2.2.1
  · rw [hf.1 197 _ (k 197 (by decide))]; exact h.1.2.2.2.2 i hi
  · rw [hf.1 187 29 (k 187029 (by decide))]; exact h.2.2.1
  · exact zb_sk_up _ (fun i _ => hf.1 203 i (k 203 (by decide))) h.2.2.2.1
  · rw [hf.1 187 30 (k 187030 (by decide))]; exact h.2.2.2.2.1
  · exact zb_skb_up _ (fun i _ => hf.1 204 i (k 204 (by decide))) h.2.2.2.2.2.1
  · rw [hf.1 187 31 (k 187031 (by decide))]; exact h.2.2.2.2.2.2
theorem zb_ME_at {b : Nat} (h : zb_ME t n a base W P s) (hb : b ≤ n) (hab : a ≤ b) : zb_ME t n b base W P (ss_setI s 187 25 (zb_n b)) := by
  refine ⟨zb_MT_at h.1 hb, ⟨by have := h.2.1; omega, by have := h.2.1; omega⟩, ?_, ?_, ?_, ?_, ?_⟩
  · rw [zb_set_ne (by omega)]; exact h.2.2.1
  · exact zb_sk_up _ (fun i _ => zb_set_ne (by omega)) h.2.2.2.1
  · rw [zb_set_ne (by omega)]; exact h.2.2.2.2.1
  · exact zb_skb_up _ (fun i _ => zb_set_ne (by omega)) h.2.2.2.2.2.1
  · rw [zb_set_ne (by omega)]; exact h.2.2.2.2.2.2
/-- settling stops -/
def zb_stop (sign : Int32) : List Int32 → Prop
  | [] => True
  | x :: _ => x ≠ zb_n 38 ∧ (x = zb_n 124 → sign = zb_n 38)
theorem zb_set_stop {Q : sv_S → Prop} {sign : Int32} {f : Nat} (h : zb_ME t n a base W P s) (hs : zb_stop sign W) (hQ : Q s) : zb_W (F_Mo_settle_b0 (f + 1) sign s) Q := by
  have hb := h.1.1
  have h29 := h.2.2.1
  simp only [F_Mo_settle_b0]
  rw [h29]
  cases W with
  | nil =>
    refine zb_Wpos (by first | omega | (simp (disch := omega) only [zb_lit, zb_n_add, zb_n_mul, zb_n_ix, zb_n_lt, zb_n_le, zb_n_eq, zb_ib_n, List.length_nil] <;> omega)) ?_
    exact zb_Wsome hQ
  | cons x W =>
    have hW := h.2.1.1
    have top := h.2.2.2.1.1
    rw [List.length_cons] at hW ⊢
    rw [zb_sub1]
    refine zb_Wneg (by first | omega | (simp (disch := omega) only [zb_lit, zb_n_add, zb_n_mul, zb_n_ix, zb_n_lt, zb_n_le, zb_n_eq, zb_ib_n] <;> omega)) ?_
    refine zb_Wpos (by first | omega | (simp (disch := omega) only [zb_lit, zb_n_add, zb_n_mul, zb_n_ix, zb_n_lt, zb_n_le, zb_n_eq, zb_ib_n] <;> omega)) ?_
    rw [zb_n_ix (by omega), top]
    refine zb_Wneg hs.1 ?_
    refine zb_Wpos (by first | omega | (simp (disch := omega) only [zb_lit, zb_n_add, zb_n_mul, zb_n_ix, zb_n_lt, zb_n_le, zb_n_eq, zb_ib_n] <;> omega)) ?_
    by_cases q : x = zb_n 124
    · refine zb_Wpos q (zb_Wpos (hs.2 q) (zb_Wsome hQ))
    · exact zb_Wneg q (zb_Wsome hQ)
/-- settling goes on -/
theorem zb_set_pop {Q : sv_S → Prop} {sign x : Int32} {f : Nat} {p q : Bool} (h : zb_ME t n a base (x :: W) (q :: p :: P) s) (hx : x = zb_n 38 ∨ (x = zb_n 124 ∧ sign ≠ zb_n 38))
    (k : ∀ u, zb_ME t n a base W ((if x = zb_n 38 then p && q else p || q) :: P) u → zb_fr zb_ZE s u → zb_W (F_Mo_settle_b0 f sign u) Q) : zb_W (F_Mo_settle_b0 (f + 1) sign s) Q := by
  have hb := h.1.1
  have h29 := h.2.2.1
  have hW := h.2.1.1
  have hP := h.2.1.2
  have top := h.2.2.2.1.1
  have h30 := h.2.2.2.2.1
  have pq := h.2.2.2.2.2.1
  rw [List.length_cons] at h29 hW
  rw [List.length_cons, List.length_cons] at hP h30
  have b154 : ∀ (u : sv_S) (v : Bool), u.1 187 29 = zb_n W.length → u.1 187 30 = zb_n (P.length + 1) → (∀ c j, c ≠ 187 → u.1 c j = s.1 c j) → (∀ j, j ≠ 29 → j ≠ 30 → u.1 187 j = s.1 187 j) → zb_fr zb_ZE s u → v = (if x = zb_n 38 then p && q else p || q) → zb_W (F_Mo_settle_b154 (F_Mo_settle_b0 f) sign (zb_n P.length) (zb_b v) u) Q := by
    intro u v u1 u2 u3 u4 uf hv
    unfold F_Mo_settle_b154
    refine zb_Wpos (by first | omega | (simp (disch := omega) only [zb_lit, zb_n_add, zb_n_mul, zb_n_ix, zb_n_lt, zb_n_le, zb_n_eq, zb_ib_n] <;> omega)) ?_
    refine zb_Wlet ?_
    rw [zb_n_ix (by omega)]
    have e2 : zb_b v &&& 1 = zb_b v := by cases v <;> decide
    rw [e2]
    have o38 : zb_op (x :: W) = zb_op W := by
      simp only [zb_op]
      rw [if_neg, Nat.zero_add]
      rcases hx with rfl | ⟨rfl, _⟩ <;> decide
    refine k _ ⟨⟨h.1.1, ?_, ?_, ?_, fun i hi => ?_⟩, ⟨by omega, by rw [List.length_cons]; omega⟩, ?_, ?_, ?_, ⟨?_, ?_⟩, ?_⟩ (zb_fr_set uf rfl)
    · rw [zb_set_ne (by omega), u4 _ (by omega) (by omega)]; exact h.1.2.1
    · rw [zb_set_ne (by omega), u4 _ (by omega) (by omega)]; exact h.1.2.2.1
    · rw [zb_set_ne (by omega), u4 _ (by omega) (by omega)]; exact h.1.2.2.2.1
    · rw [zb_set_ne (by omega), u3 _ _ (by omega)]; exact h.1.2.2.2.2 i hi
    · rw [zb_set_ne (by omega)]; exact u1
    · exact zb_sk_up _ (fun i _ => by rw [zb_set_ne (by omega), u3 _ _ (by omega)]) h.2.2.2.1.2
    · rw [zb_set_ne (by omega)]; exact u2
    · rw [zb_set_eq, hv]
    · exact zb_skb_up _ (fun i hi => by rw [zb_set_ne (by omega), u3 _ _ (by omega)]) pq.2.2
    · rw [zb_set_ne (by omega), u4 _ (by omega) (by omega), ← o38]; exact h.2.2.2.2.2.2
  have b45 : zb_W (F_Mo_settle_b45 (F_Mo_settle_b0 f) sign s) Q := by
    unfold F_Mo_settle_b45
    refine zb_Wlet ?_
    rw [h29, zb_sub1]
    refine zb_Wlet ?_
    have e30 : (ss_setI s 187 29 (zb_n W.length)).1 187 30 = zb_n (P.length + 1 + 1) := (zb_set_ne (by omega)).trans h30
    rw [e30, zb_sub1]
    have F1 : (ss_setI (ss_setI s 187 29 (zb_n W.length)) 187 30 (zb_n (P.length + 1))).1 187 29 = zb_n W.length := (zb_set_ne (by omega)).trans zb_set_eq
    have F2 : (ss_setI (ss_setI s 187 29 (zb_n W.length)) 187 30 (zb_n (P.length + 1))).1 187 30 = zb_n (P.length + 1) := zb_set_eq
    have F3 : ∀ c j, c ≠ 187 → (ss_setI (ss_setI s 187 29 (zb_n W.length)) 187 30 (zb_n (P.length + 1))).1 c j = s.1 c j := fun c j hc => by rw [zb_set_ne (by omega), zb_set_ne (by omega)]
    have F4 : ∀ j, j ≠ 29 → j ≠ 30 → (ss_setI (ss_setI s 187 29 (zb_n W.length)) 187 30 (zb_n (P.length + 1))).1 187 j = s.1 187 j := fun j h1 h2 => by rw [zb_set_ne (by omega), zb_set_ne (by omega)]
    have F5 : zb_fr zb_ZE s (ss_setI (ss_setI s 187 29 (zb_n W.length)) 187 30 (zb_n (P.length + 1))) := zb_fr_set (zb_fr_set (zb_fr_refl _ _) rfl) rfl
    generalize ss_setI (ss_setI s 187 29 (zb_n W.length)) 187 30 (zb_n (P.length + 1)) = u at F1 F2 F3 F4 F5 ⊢
    rw [F1]
    refine zb_Wpos (by first | omega | (simp (disch := omega) only [zb_lit, zb_n_add, zb_n_mul, zb_n_ix, zb_n_lt, zb_n_le, zb_n_eq, zb_ib_n] <;> omega)) ?_
    rw [zb_n_ix (by omega), F3 203 _ (by omega), top, F2, zb_sub1, zb_n_ix (by omega), zb_n_ix (by omega), F3 204 _ (by omega), F3 204 _ (by omega)]
    have p1 : s.1 204 P.length = zb_b p := pq.2.1
    have q1 : s.1 204 (P.length + 1) = zb_b q := pq.1
    rw [p1, q1]
    simp only [zb_lit, zb_b0]
    unfold F_Mo_settle_b119 F_Mo_settle_b149
    have R := fun v hv => b154 u v F1 F2 F3 F4 F5 hv
    by_cases x38 : x = zb_n 38
    · rw [if_pos x38] at R
      refine zb_Wpos x38 ?_
      refine zb_Wpos (by first | omega | (simp (disch := omega) only [zb_lit, zb_n_add, zb_n_mul, zb_n_ix, zb_n_lt, zb_n_le, zb_n_eq, zb_ib_n] <;> omega)) ?_
      cases p with
      | false => exact zb_Wpos rfl (R false rfl)
      | true =>
        refine zb_Wneg (by decide) ?_
        refine zb_Wpos (by first | omega | (simp (disch := omega) only [zb_lit, zb_n_add, zb_n_mul, zb_n_ix, zb_n_lt, zb_n_le, zb_n_eq, zb_ib_n] <;> omega)) ?_
        cases q with
        | false => exact zb_Wpos rfl (R false rfl)
        | true => exact zb_Wneg (by decide) (R true rfl)
    · rw [if_neg x38] at R
      refine zb_Wneg x38 ?_
      refine zb_Wpos (by first | omega | (simp (disch := omega) only [zb_lit, zb_n_add, zb_n_mul, zb_n_ix, zb_n_lt, zb_n_le, zb_n_eq, zb_ib_n] <;> omega)) ?_
      cases p with
      | true => exact zb_Wneg (by decide) (R true rfl)
      | false =>
        refine zb_Wpos rfl ?_
        refine zb_Wpos (by first | omega | (simp (disch := omega) only [zb_lit, zb_n_add, zb_n_mul, zb_n_ix, zb_n_lt, zb_n_le, zb_n_eq, zb_ib_n] <;> omega)) ?_
        cases q with
        | false => exact zb_Wpos rfl (R false rfl)
        | true => exact zb_Wneg (by decide) (R true rfl)
  simp only [F_Mo_settle_b0]
  rw [h29, zb_sub1]
  refine zb_Wneg (by first | omega | (simp (disch := omega) only [zb_lit, zb_n_add, zb_n_mul, zb_n_ix, zb_n_lt, zb_n_le, zb_n_eq, zb_ib_n] <;> omega)) ?_
  refine zb_Wpos (by first | omega | (simp (disch := omega) only [zb_lit, zb_n_add, zb_n_mul, zb_n_ix, zb_n_lt, zb_n_le, zb_n_eq, zb_ib_n] <;> omega)) ?_
  rw [zb_n_ix (by omega), top]
  rcases hx with rfl | ⟨rfl, hs⟩
  · exact zb_Wpos rfl b45
  · refine zb_Wneg (by decide) ?_
    refine zb_Wpos (by first | omega | (simp (disch := omega) only [zb_lit, zb_n_add, zb_n_mul, zb_n_ix, zb_n_lt, zb_n_le, zb_n_eq, zb_ib_n] <;> omega)) ?_
    exact zb_Wpos rfl (zb_Wneg hs b45)
/-- the two shapes behind factors: settled, or with one '&' waiting; and behind both: with one '|' waiting -/
def zb_BS (t : Nat → Int32) (n a base : Nat) (W : List Int32) (P : List Bool) (v : Bool) (s : sv_S) : Prop := zb_ME t n a base W (v :: P) s ∨ ∃ p q, v = (p && q) ∧ zb_ME t n a base (zb_n 38 :: W) (q :: p :: P) s
def zb_ES (t : Nat → Int32) (n a base : Nat) (W : List Int32) (P : List Bool) (v : Bool) (s : sv_S) : Prop := zb_BS t n a base W P v s ∨ ∃ p q, v = (p || q) ∧ zb_BS t n a base (zb_n 124 :: W) (p :: P) q s
theorem zb_BS_settle {Q : sv_S → Prop} {sign : Int32} {f : Nat} {v : Bool} (h : zb_BS t n a base W P v s) (k : ∀ u, zb_ME t n a base W (v :: P) u → zb_fr zb_ZE s u → zb_W (F_Mo_settle_b0 f sign u) Q) (k0 : zb_ME t n a base W (v :: P) s → zb_W (F_Mo_settle_b0 (f + 1) sign s) Q) : zb_W (F_Mo_settle_b0 (f + 1) sign s) Q := by
  rcases h with h | ⟨p, q, rfl, h⟩
  · exact k0 h
  · exact zb_set_pop h (Or.inl rfl) (fun u hu hf => k u (by rw [if_pos rfl] at hu; exact hu) hf)
theorem zb_BS_38 {v : Bool} (h : zb_BS t n a base W P v s) (hs : zb_stop (zb_n 38) W) : zb_W (F_Mo_settle (zb_n 38) s) (fun u => zb_ME t n a base W (v :: P) u ∧ zb_fr zb_ZE s u) := by
  unfold F_Mo_settle
  rw [show ss_F = 8190 + 1 + 1 from rfl]
  exact zb_BS_settle h (fun u hu hf => zb_set_stop hu hs ⟨hu, hf⟩) (fun h0 => zb_set_stop h0 hs ⟨h0, zb_fr_refl _ _⟩)
theorem zb_ES_124 {v : Bool} (h : zb_ES t n a base W P v s) (hs : zb_stop (zb_n 124) W) : zb_W (F_Mo_settle (zb_n 124) s) (fun u => zb_ME t n a base W (v :: P) u ∧ zb_fr zb_ZE s u) := by
  unfold F_Mo_settle
  rw [show ss_F = 8189 + 1 + 1 + 1 from rfl]
  rcases h with h | ⟨p, q, rfl, h⟩
  · exact zb_BS_settle h (fun u hu hf => zb_set_stop hu hs ⟨hu, hf⟩) (fun h0 => zb_set_stop h0 hs ⟨h0, zb_fr_refl _ _⟩)
  · refine zb_BS_settle h (fun u hu hf => ?_) (fun h0 => ?_)
    · exact zb_set_pop hu (Or.inr ⟨rfl, by decide⟩) (fun w hw hfw => by rw [if_neg (by decide)] at hw; exact zb_set_stop hw hs ⟨hw, zb_fr_trans hf hfw⟩)
    · exact zb_set_pop h0 (Or.inr ⟨rfl, by decide⟩) (fun w hw hfw => by rw [if_neg (by decide)] at hw; exact zb_set_stop hw hs ⟨hw, hfw⟩)
end MS
