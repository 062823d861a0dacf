/-! factors, both, either: the model goes as the class does -/
/-- tops: anything; not '!' and not '&'; nor '|' -/
def sb_tA (W : List Int32) : Prop := True
def sb_tB : List Int32 → Prop
  | [] => True
  | x :: _ => x ≠ sb_n 33 ∧ x ≠ sb_n 38
def sb_tC : List Int32 → Prop
  | [] => True
  | x :: _ => x ≠ sb_n 33 ∧ x ≠ sb_n 38 ∧ x ≠ sb_n 124
theorem sb_tB_tA {W : List Int32} (_ : sb_tB W) : sb_tA W := trivial
theorem sb_tC_tB {W : List Int32} (h : sb_tC W) : sb_tB W := by
  cases W with
  | nil => trivial
  | cons x W => exact ⟨h.1, h.2.1⟩
theorem sb_tB_stop {W : List Int32} (h : sb_tB W) : sb_stop (sb_n 38) W := by
  cases W with
  | nil => trivial
  | cons x W => exact ⟨h.2, fun _ => rfl⟩
theorem sb_tC_stop {W : List Int32} (h : sb_tC W) : sb_stop (sb_n 124) W := by
  cases W with
  | nil => trivial
  | cons x W => exact ⟨h.2.1, fun e => absurd e h.2.2⟩
section WF
variable {t : Nat → Int32} {n a base : Nat} {s : sv_S} {W : List Int32} {P : List Bool}
theorem sb_BS_MT {v : Bool} (h : sb_BS t n a base W P v s) : sb_MT t n a base s := by
  rcases h with h | ⟨_, _, _, h⟩
  · exact h.1
  · exact h.1
theorem sb_ES_MT {v : Bool} (h : sb_ES t n a base W P v s) : sb_MT t n a base s := by
  rcases h with h | ⟨_, _, _, h⟩
  · exact sb_BS_MT h
  · exact sb_BS_MT h
theorem sb_BS_mk {v v2 : Bool} (h : sb_ME t n a base (sb_pn (sb_n 38 :: W) v2).2 ((sb_pn (sb_n 38 :: W) v2).1 :: v :: P) s) : sb_BS t n a base W P (v && v2) s := by
  have e : sb_pn (sb_n 38 :: W) v2 = (v2, sb_n 38 :: W) := by simp only [sb_pn]; rw [if_neg (by decide)]
  rw [e] at h
  exact Or.inr ⟨v, v2, rfl, h⟩
theorem sb_ES_mk {v v2 : Bool} (h : sb_BS t n a base (sb_n 124 :: W) (v :: P) v2 s) : sb_ES t n a base W P (v || v2) s := Or.inr ⟨v, v2, rfl, h⟩
theorem sb_pn_tB {v : Bool} (h : sb_tB W) : sb_pn W v = (v, W) := by
  cases W with
  | nil => rfl
  | cons x W => simp only [sb_pn]; rw [if_neg h.1]
theorem sb_BS_first {v : Bool} (hW : sb_tB W) (h : sb_ME t n a base (sb_pn W v).2 ((sb_pn W v).1 :: P) s) : sb_BS t n a base W P v s := by
  rw [sb_pn_tB hW] at h; exact Or.inl h
theorem sb_ES_first {v : Bool} (_ : sb_tC W) (h : sb_BS t n a base W P v s) : sb_ES t n a base W P v s := Or.inl h
theorem sb_moL_le {sign : Nat} {step : Int} {f : Nat → sb_PR} (hgp : ∀ b, b ≤ n → sb_gp n b (f b)) (hs : sign ≤ 127) : ∀ (m b : Nat) (st : List Int32), b ≤ n → b ≤ (sb_moL t n sign step f m b st).2.1 ∧ (sb_moL t n sign step f m b st).2.1 ≤ n := by
  intro m
  induction m with
  | zero => intro b st hb; exact ⟨Nat.le_refl _, hb⟩
  | succ m ih =>
    intro b st hb
    simp only [sb_moL]
    by_cases q : sb_nc t n b = sb_n sign
    · rw [if_pos q]
      have hlt := sb_nc_lt hs q
      have g := hgp (b + 1) (by omega)
      unfold sb_gp at g
      split
      · have := ih (f (b + 1)).2.1 (st ++ (f (b + 1)).2.2 ++ [sb_i step]) (by omega)
        omega
      · dsimp only; omega
    · rw [if_neg q]; exact ⟨Nat.le_refl _, hb⟩
theorem sb_W_bothL {k : Nat} {f : Nat → sb_PR} (hn : n ≤ 140) (hgp : ∀ b, b ≤ n → sb_gp n b (f b))
    (hf : ∀ (b : Nat) (W : List Int32) (P : List Bool) (u : sv_S), sb_tA W → sb_op W + k = 5 → sb_ME t n b base W P u → sb_FT (sb_n 1) b u (f b) (fun v w => sb_ME t n (f b).2.1 base (sb_pn W v).2 ((sb_pn W v).1 :: P) w)) :
    ∀ (m b : Nat) (st : List Int32) (W : List Int32) (P : List Bool) (v : Bool) (u : sv_S), sb_tB W → sb_op W + k = 5 → b ≤ n → sb_val (u.1 202) st v → sb_BS t n b base W P v u → sb_FT (sb_n 0) b u (sb_moL t n 38 100000 f m b st) (fun v w => sb_BS t n (sb_moL t n 38 100000 f m b st).2.1 base W P v w) := by
  intro m
  induction m with
  | zero =>
    intro b st W P v u hW hk hb hv h
    simp only [sb_moL]
    refine ⟨fun _ => ⟨0, v, u, by omega, hv, fun m => rfl, sb_fr_refl _ _, h⟩, fun q => by cases q⟩
  | succ m ih =>
    intro b st W P v u hW hk hb hv h
    simp only [sb_moL]
    by_cases q : sb_nc t n b = sb_n 38
    · rw [if_pos q]
      have hlt := sb_nc_lt (by omega) q
      have g := hgp (b + 1) (by omega)
      unfold sb_gp at g
      obtain ⟨u1, s1, s2, s3⟩ := sb_E_sign (c := 38) (Or.inl rfl) (sb_BS_MT h) q (sb_BS_38 h (sb_tB_stop hW))
      have R := hf (b + 1) (sb_n 38 :: W) (v :: P) u1 trivial (by simp only [sb_op]; rw [if_neg (by decide)]; omega) s2
      have F1 := sb_F202 s3
      by_cases w : (f (b + 1)).1 = true
      · rw [if_pos w]
        obtain ⟨i, v2, u2, i1, i2, i3, i4, i5⟩ := R.1 w
        rw [F1] at i2
        have F2 := sb_F202 (sb_fr_trans s3 i4)
        have IH := ih (f (b + 1)).2.1 (st ++ (f (b + 1)).2.2 ++ [sb_i 100000]) W P (v && v2) u2 hW hk (by omega) (by rw [F2]; exact sb_val_and hv i2) (sb_BS_mk i5)
        have g2 := (sb_moL_gp (t := t) (step := 100000) (a := b) (sign := 38) (by omega) hgp m (f (b + 1)).2.1 (st ++ (f (b + 1)).2.2 ++ [sb_i 100000]))
        have mono := sb_moL_le (t := t) (n := n) (sign := 38) (step := 100000) hgp (by omega) m (f (b + 1)).2.1 (st ++ (f (b + 1)).2.2 ++ [sb_i 100000]) (by omega)
        have gt := g.2.2.2 w
        refine ⟨fun z => ?_, fun z => ?_⟩
        · obtain ⟨j, v3, u3, j1, j2, j3, j4, j5⟩ := IH.1 z
          rw [F2] at j2
          exact ⟨1 + (i + j), v3, u3, by omega, j2, sb_go_go s1 (sb_go_go i3 j3), sb_fr_trans (sb_fr_trans s3 i4) j4, j5⟩
        · obtain ⟨j, u3, j1, j2, j3, j4⟩ := IH.2 z
          exact ⟨1 + (i + j), u3, by omega, sb_go_end s1 (sb_go_end i3 j2), sb_fr_trans (sb_fr_trans s3 i4) j3, j4⟩
      · rw [if_neg w]
        have w' : (f (b + 1)).1 = false := by simpa using w
        refine ⟨fun z => (by cases z), fun _ => ?_⟩
        obtain ⟨i, u2, i1, i2, i3, i4⟩ := R.2 w'
        exact ⟨1 + i, u2, by dsimp only; omega, sb_go_end s1 i2, sb_fr_trans s3 i3, i4⟩
    · rw [if_neg q]
      refine ⟨fun _ => ⟨0, v, u, by omega, hv, fun m => rfl, sb_fr_refl _ _, h⟩, fun z => by cases z⟩
theorem sb_W_both {k : Nat} {f : Nat → sb_PR} (hn : n ≤ 140) (hgp : ∀ b, b ≤ n → sb_gp n b (f b))
    (hf : ∀ (b : Nat) (W : List Int32) (P : List Bool) (u : sv_S), sb_tA W → sb_op W + k = 5 → sb_ME t n b base W P u → sb_FT (sb_n 1) b u (f b) (fun v w => sb_ME t n (f b).2.1 base (sb_pn W v).2 ((sb_pn W v).1 :: P) w))
    (hW : sb_tB W) (hk : sb_op W + k = 5) (h : sb_ME t n a base W P s) : sb_FT (sb_n 1) a s (sb_mo t n 38 100000 f a) (fun v w => sb_BS t n (sb_mo t n 38 100000 f a).2.1 base W P v w) := by
  have hb := h.1.1
  have g := hgp a (by omega)
  unfold sb_gp at g
  have R := hf a W P s (sb_tB_tA hW) hk h
  unfold sb_mo
  by_cases w : (f a).1 = true
  · rw [if_pos w]
    obtain ⟨i, v, u, i1, i2, i3, i4, i5⟩ := R.1 w
    have F1 := sb_F202 i4
    have L := sb_W_bothL hn hgp hf 140 (f a).2.1 (f a).2.2 W P v u hW hk (by omega) (by rw [F1]; exact i2) (sb_BS_first hW i5)
    have mono := sb_moL_le (t := t) (n := n) (sign := 38) (step := 100000) hgp (by omega) 140 (f a).2.1 (f a).2.2 (by omega)
    refine ⟨fun z => ?_, fun z => ?_⟩
    · obtain ⟨j, v3, u3, j1, j2, j3, j4, j5⟩ := L.1 z
      rw [F1] at j2
      exact ⟨i + j, v3, u3, by omega, j2, sb_go_go i3 j3, sb_fr_trans i4 j4, j5⟩
    · obtain ⟨j, u3, j1, j2, j3, j4⟩ := L.2 z
      exact ⟨i + j, u3, by omega, sb_go_end i3 j2, sb_fr_trans i4 j3, j4⟩
  · rw [if_neg w]
    have w' : (f a).1 = false := by simpa using w
    exact ⟨fun z => absurd z w, fun _ => R.2 w'⟩
theorem sb_W_eitherL {k : Nat} {f : Nat → sb_PR} (hn : n ≤ 140) (hgp : ∀ b, b ≤ n → sb_gp n b (f b))
    (hf : ∀ (b : Nat) (W : List Int32) (P : List Bool) (u : sv_S), sb_tB W → sb_op W + k = 5 → sb_ME t n b base W P u → sb_FT (sb_n 1) b u (f b) (fun v w => sb_BS t n (f b).2.1 base W P v w)) :
    ∀ (m b : Nat) (st : List Int32) (W : List Int32) (P : List Bool) (v : Bool) (u : sv_S), sb_tC W → sb_op W + k = 5 → b ≤ n → sb_val (u.1 202) st v → sb_ES t n b base W P v u → sb_FT (sb_n 0) b u (sb_moL t n 124 110000 f m b st) (fun v w => sb_ES t n (sb_moL t n 124 110000 f m b st).2.1 base W P v w) := by
  intro m
  induction m with
  | zero =>
    intro b st W P v u hW hk hb hv h
    simp only [sb_moL]
    refine ⟨fun _ => ⟨0, v, u, by omega, hv, fun m => rfl, sb_fr_refl _ _, h⟩, fun q => by cases q⟩
  | succ m ih =>
    intro b st W P v u hW hk hb hv h
    simp only [sb_moL]
    by_cases q : sb_nc t n b = sb_n 124
    · rw [if_pos q]
      have hlt := sb_nc_lt (by omega) q
      have g := hgp (b + 1) (by omega)
      unfold sb_gp at g
      obtain ⟨u1, s1, s2, s3⟩ := sb_E_sign (c := 124) (Or.inr rfl) (sb_ES_MT h) q (sb_ES_124 h (sb_tC_stop hW))
      have R := hf (b + 1) (sb_n 124 :: W) (v :: P) u1 ⟨by decide, by decide⟩ (by simp only [sb_op]; rw [if_neg (by decide)]; omega) s2
      have F1 := sb_F202 s3
      by_cases w : (f (b + 1)).1 = true
      · rw [if_pos w]
        obtain ⟨i, v2, u2, i1, i2, i3, i4, i5⟩ := R.1 w
        rw [F1] at i2
        have F2 := sb_F202 (sb_fr_trans s3 i4)
        have IH := ih (f (b + 1)).2.1 (st ++ (f (b + 1)).2.2 ++ [sb_i 110000]) W P (v || v2) u2 hW hk (by omega) (by rw [F2]; exact sb_val_or hv i2) (sb_ES_mk i5)
        have g2 := (sb_moL_gp (t := t) (step := 110000) (a := b) (sign := 124) (by omega) hgp m (f (b + 1)).2.1 (st ++ (f (b + 1)).2.2 ++ [sb_i 110000]))
        have mono := sb_moL_le (t := t) (n := n) (sign := 124) (step := 110000) hgp (by omega) m (f (b + 1)).2.1 (st ++ (f (b + 1)).2.2 ++ [sb_i 110000]) (by omega)
        have gt := g.2.2.2 w
        refine ⟨fun z => ?_, fun z => ?_⟩
        · obtain ⟨j, v3, u3, j1, j2, j3, j4, j5⟩ := IH.1 z
          rw [F2] at j2
          exact ⟨1 + (i + j), v3, u3, by omega, j2, sb_go_go s1 (sb_go_go i3 j3), sb_fr_trans (sb_fr_trans s3 i4) j4, j5⟩
        · obtain ⟨j, u3, j1, j2, j3, j4⟩ := IH.2 z
          exact ⟨1 + (i + j), u3, by omega, sb_go_end s1 (sb_go_end i3 j2), sb_fr_trans (sb_fr_trans s3 i4) j3, j4⟩
      · rw [if_neg w]
        have w' : (f (b + 1)).1 = false := by simpa using w
        refine ⟨fun z => (by cases z), fun _ => ?_⟩
        obtain ⟨i, u2, i1, i2, i3, i4⟩ := R.2 w'
        exact ⟨1 + i, u2, by dsimp only; omega, sb_go_end s1 i2, sb_fr_trans s3 i3, i4⟩
    · rw [if_neg q]
      refine ⟨fun _ => ⟨0, v, u, by omega, hv, fun m => rfl, sb_fr_refl _ _, h⟩, fun z => by cases z⟩
theorem sb_W_either {k : Nat} {f : Nat → sb_PR} (hn : n ≤ 140) (hgp : ∀ b, b ≤ n → sb_gp n b (f b))
    (hf : ∀ (b : Nat) (W : List Int32) (P : List Bool) (u : sv_S), sb_tB W → sb_op W + k = 5 → sb_ME t n b base W P u → sb_FT (sb_n 1) b u (f b) (fun v w => sb_BS t n (f b).2.1 base W P v w))
    (hW : sb_tC W) (hk : sb_op W + k = 5) (h : sb_ME t n a base W P s) : sb_FT (sb_n 1) a s (sb_mo t n 124 110000 f a) (fun v w => sb_ES t n (sb_mo t n 124 110000 f a).2.1 base W P v w) := by
  have hb := h.1.1
  have g := hgp a (by omega)
  unfold sb_gp at g
  have R := hf a W P s (sb_tC_tB hW) hk h
  unfold sb_mo
  by_cases w : (f a).1 = true
  · rw [if_pos w]
    obtain ⟨i, v, u, i1, i2, i3, i4, i5⟩ := R.1 w
    have F1 := sb_F202 i4
    have L := sb_W_eitherL hn hgp hf 140 (f a).2.1 (f a).2.2 W P v u hW hk (by omega) (by rw [F1]; exact i2) (sb_ES_first hW i5)
    have mono := sb_moL_le (t := t) (n := n) (sign := 124) (step := 110000) hgp (by omega) 140 (f a).2.1 (f a).2.2 (by omega)
    refine ⟨fun z => ?_, fun z => ?_⟩
    · obtain ⟨j, v3, u3, j1, j2, j3, j4, j5⟩ := L.1 z
      rw [F1] at j2
      exact ⟨i + j, v3, u3, by omega, j2, sb_go_go i3 j3, sb_fr_trans i4 j4, j5⟩
    · obtain ⟨j, u3, j1, j2, j3, j4⟩ := L.2 z
      exact ⟨i + j, u3, by omega, sb_go_end i3 j2, sb_fr_trans i4 j3, j4⟩
  · rw [if_neg w]
    have w' : (f a).1 = false := by simpa using w
    exact ⟨fun z => absurd z w, fun _ => R.2 w'⟩
/-- behind either no '&' stands -/
theorem sb_moL_Z {sign : Nat} {step : Int} {f : Nat → sb_PR} {Z : Nat → Prop} (hf : ∀ b, (f b).1 = true → Z (f b).2.1) : ∀ (m b : Nat) (st : List Int32), Z b → (sb_moL t n sign step f m b st).1 = true → Z (sb_moL t n sign step f m b st).2.1 := by
  intro m
  induction m with
  | zero => intro b st hb _; exact hb
  | succ m ih =>
    intro b st hb
    simp only [sb_moL]
    by_cases q : sb_nc t n b = sb_n sign
    · rw [if_pos q]
      by_cases w : (f (b + 1)).1 = true
      · rw [if_pos w]; exact ih _ _ (hf _ w)
      · rw [if_neg w]; exact fun z => by cases z
    · rw [if_neg q]; exact fun _ => hb
theorem sb_mo_38 {f : Nat → sb_PR} (hn : n ≤ 140) (hgp : ∀ b, b ≤ n → sb_gp n b (f b)) (ha : a ≤ n) (h : (sb_mo t n 124 110000 (sb_mo t n 38 100000 f) a).1 = true) : sb_nc t n (sb_mo t n 124 110000 (sb_mo t n 38 100000 f) a).2.1 ≠ sb_n 38 := by
  have g1 : ∀ b, b ≤ n → sb_gp n b (sb_mo t n 38 100000 f b) := fun b hb => (sb_mo_gp (by omega) hgp hb hn).1
  have key : ∀ b, b ≤ n → (sb_mo t n 38 100000 f b).1 = true → sb_nc t n (sb_mo t n 38 100000 f b).2.1 ≠ sb_n 38 := fun b hb => (sb_mo_gp (by omega) hgp hb hn).2
  -- beyond the end nothing is read, so places stay within
  have all : ∀ (m b : Nat) (st : List Int32), b ≤ n → sb_nc t n b ≠ sb_n 38 → (sb_moL t n 124 110000 (sb_mo t n 38 100000 f) m b st).1 = true → sb_nc t n (sb_moL t n 124 110000 (sb_mo t n 38 100000 f) m b st).2.1 ≠ sb_n 38 := by
    intro m
    induction m with
    | zero => intro b st _ hb _; exact hb
    | succ m ih =>
      intro b st hbn hb
      simp only [sb_moL]
      by_cases q : sb_nc t n b = sb_n 124
      · rw [if_pos q]
        have hlt := sb_nc_lt (by omega) q
        by_cases w : (sb_mo t n 38 100000 f (b + 1)).1 = true
        · rw [if_pos w]
          have g := g1 (b + 1) (by omega)
          unfold sb_gp at g
          exact ih _ _ (by omega) (key (b + 1) (by omega) w)
        · rw [if_neg w]; exact fun z => by cases z
      · rw [if_neg q]; exact fun _ => hb
  have e : sb_mo t n 124 110000 (sb_mo t n 38 100000 f) a = if (sb_mo t n 38 100000 f a).1 = true then sb_moL t n 124 110000 (sb_mo t n 38 100000 f) 140 (sb_mo t n 38 100000 f a).2.1 (sb_mo t n 38 100000 f a).2.2 else sb_mo t n 38 100000 f a := rfl
  rw [e] at h ⊢
  by_cases w : (sb_mo t n 38 100000 f a).1 = true
  · rw [if_pos w] at h ⊢
    have g := g1 a ha
    unfold sb_gp at g
    exact all _ _ _ (by omega) (key a ha w) h
  · rw [if_neg w] at h; exact absurd h w
theorem sb_W_fac (hn : n ≤ 140) : ∀ (k : Nat) (b : Nat) (W : List Int32) (P : List Bool) (u : sv_S), sb_tA W → sb_op W + k = 5 → sb_ME t n b base W P u → sb_FT (sb_n 1) b u (sb_fac t n k b) (fun v w => sb_ME t n (sb_fac t n k b).2.1 base (sb_pn W v).2 ((sb_pn W v).1 :: P) w) := by
  intro k
  induction k with
  | zero =>
    intro b W P u _ hk h
    simp only [sb_fac]
    by_cases q1 : sb_nc t n b = sb_n 33
    · have e : sb_tst t n b = (false, b, []) := by unfold sb_tst; rw [q1]; simp only [show ¬ sb_n 33 = sb_n 103 by decide, show ¬ sb_n 33 = sb_n 99 by decide, show ¬ sb_n 33 = sb_n 111 by decide, show ¬ sb_n 33 = sb_n 116 by decide, show ¬ sb_n 33 = sb_n 100 by decide, show ¬ sb_n 33 = sb_n 98 by decide, show ¬ sb_n 33 = sb_n 120 by decide, if_false]
      rw [e]
      exact ⟨fun z => (by cases z), fun _ => ⟨1, u, by omega, sb_E_full (Or.inl rfl) h q1 (by omega), sb_fr_refl _ _, h.1.2.2.2.1⟩⟩
    · by_cases q2 : sb_nc t n b = sb_n 40
      · have e : sb_tst t n b = (false, b, []) := by unfold sb_tst; rw [q2]; simp only [show ¬ sb_n 40 = sb_n 103 by decide, show ¬ sb_n 40 = sb_n 99 by decide, show ¬ sb_n 40 = sb_n 111 by decide, show ¬ sb_n 40 = sb_n 116 by decide, show ¬ sb_n 40 = sb_n 100 by decide, show ¬ sb_n 40 = sb_n 98 by decide, show ¬ sb_n 40 = sb_n 120 by decide, if_false]
        rw [e]
        exact ⟨fun z => (by cases z), fun _ => ⟨1, u, by omega, sb_E_full (Or.inr rfl) h q2 (by omega), sb_fr_refl _ _, h.1.2.2.2.1⟩⟩
      · exact sb_E_test h q1 q2
  | succ k ih =>
    intro b W P u _ hk h
    have hb := h.1.1
    have gf := sb_fac_gp (t := t) hn k
    simp only [sb_fac]
    by_cases q1 : sb_nc t n b = sb_n 33
    · rw [if_pos q1]
      have hlt := sb_nc_lt (by omega) q1
      obtain ⟨u1, s1, s2, s3⟩ := sb_E_open (Or.inl rfl) h q1 (by omega)
      have g := gf (b + 1) (by omega)
      unfold sb_gp at g
      have R := ih (b + 1) (sb_n 33 :: W) P u1 trivial (by simp only [sb_op]; rw [if_pos (by decide)]; omega) s2
      have F1 := sb_F202 s3
      refine ⟨fun z => ?_, fun z => ?_⟩
      · obtain ⟨i, v, u2, i1, i2, i3, i4, i5⟩ := R.1 z
        rw [F1] at i2
        have e : sb_pn (sb_n 33 :: W) v = sb_pn W (!v) := by simp only [sb_pn]; rw [if_pos trivial]
        rw [e] at i5
        exact ⟨1 + i, !v, u2, by dsimp only; omega, sb_val_not i2, sb_go_go s1 i3, sb_fr_trans s3 i4, i5⟩
      · obtain ⟨i, u2, i1, i2, i3, i4⟩ := R.2 z
        exact ⟨1 + i, u2, by dsimp only; omega, sb_go_end s1 i2, sb_fr_trans s3 i3, i4⟩
    · rw [if_neg q1]
      by_cases q2 : sb_nc t n b = sb_n 40
      · rw [if_pos q2]
        have hlt := sb_nc_lt (by omega) q2
        obtain ⟨u1, s1, s2, s3⟩ := sb_E_open (Or.inr rfl) h q2 (by omega)
        have g1 : ∀ b, b ≤ n → sb_gp n b (sb_mo t n 38 100000 (sb_fac t n k) b) := fun b hb => (sb_mo_gp (by omega) gf hb hn).1
        have g := sb_mo_gp (t := t) (sign := 124) (step := 110000) (a := b + 1) (by omega) g1 (by omega) hn
        have z38 := sb_mo_38 (t := t) (a := b + 1) hn gf (by omega)
        have R := sb_W_either (a := b + 1) (k := k) hn g1 (fun c W P u hW ho hM => sb_W_both hn gf ih hW ho hM) (W := sb_n 40 :: W) ⟨by decide, by decide, by decide⟩ (by simp only [sb_op]; rw [if_pos (by decide)]; omega) s2
        have F1 := sb_F202 s3
        generalize sb_mo t n 124 110000 (sb_mo t n 38 100000 (sb_fac t n k)) (b + 1) = p at R g z38 ⊢
        obtain ⟨g, g2⟩ := g
        unfold sb_gp at g
        by_cases w : p.1 = true
        · rw [if_pos w]
          obtain ⟨i, v, u2, i1, i2, i3, i4, i5⟩ := R.1 w
          rw [F1] at i2
          have gt := g.2.2.2 w
          have ST := sb_ES_124 i5 ⟨by decide, by decide⟩
          by_cases q3 : sb_nc t n p.2.1 = sb_n 41
          · rw [if_pos q3]
            obtain ⟨u3, c1, c2, c3⟩ := sb_E_close (sb_ES_MT i5) q3 ST
            exact ⟨fun _ => ⟨1 + (i + 1), v, u3, by dsimp only; omega, i2, sb_go_go s1 (sb_go_go i3 c1), sb_fr_trans s3 (sb_fr_trans i4 c3), c2⟩, fun z => by cases z⟩
          · rw [if_neg q3]
            obtain ⟨u3, c1, c2, c3⟩ := sb_E_bad (sb_ES_MT i5) (z38 w) (g2 w) q3 ST
            exact ⟨fun z => (by cases z), fun _ => ⟨1 + (i + 1), u3, by dsimp only; omega, sb_go_end s1 (sb_go_end i3 c1), sb_fr_trans s3 (sb_fr_trans i4 c2), c3⟩⟩
        · rw [if_neg w]
          have w' : p.1 = false := by simpa using w
          refine ⟨fun z => absurd z w, fun _ => ?_⟩
          obtain ⟨i, u2, i1, i2, i3, i4⟩ := R.2 w'
          exact ⟨1 + i, u2, by omega, sb_go_end s1 i2, sb_fr_trans s3 i3, i4⟩
      · rw [if_neg q2]
        exact sb_E_test h q1 q2
/-- a whole expression -/
theorem sb_Mo_exp (h : sb_MT t n a base s) : sb_W (F_Mo_takesE s) (fun r => r.1 = sb_b (sb_exp t n a).1 ∧ sb_fr sb_ZE s r.2 ∧ ((sb_exp t n a).1 = true → ∃ v, sb_val (s.1 202) (sb_exp t n a).2.2 v ∧ sb_MT t n (sb_exp t n a).2.1 base r.2 ∧ r.2.1 204 0 = sb_b v) ∧ ((sb_exp t n a).1 = false → r.2.1 187 25 = sb_n (sb_exp t n a).2.1)) := by
  have hb := h.1
  have hn := hb.1
  have gf := sb_fac_gp (t := t) hn 5
  have g1 : ∀ b, b ≤ n → sb_gp n b (sb_mo t n 38 100000 (sb_fac t n 5) b) := fun b hb => (sb_mo_gp (by omega) gf hb hn).1
  have g := sb_mo_gp (t := t) (sign := 124) (step := 110000) (a := a) (by omega) g1 (by omega) hn
  have z38 := sb_mo_38 (t := t) (a := a) hn gf (by omega)
  unfold F_Mo_takesE
  refine sb_Wlet (sb_Wlet (sb_Wlet ?_))
  have f0 : sb_fr sb_ZE s (ss_setI (ss_setI (ss_setI s 187 29 (0 : Int32)) 187 30 (0 : Int32)) 187 31 (0 : Int32)) := sb_fr_set (sb_fr_set (sb_fr_set (sb_fr_refl _ _) rfl) rfl) rfl
  have m0 : sb_ME t n a base [] [] (ss_setI (ss_setI (ss_setI s 187 29 (0 : Int32)) 187 30 (0 : Int32)) 187 31 (0 : Int32)) := by
    refine ⟨sb_MT_fr (L := [187029, 187030, 187031]) h (sb_fr_set (sb_fr_set (sb_fr_set (sb_fr_refl _ _) rfl) rfl) rfl) (by decide), ⟨Nat.zero_le _, Nat.zero_le _⟩, ?_, trivial, ?_, trivial, sb_set_eq⟩
    · rw [sb_set_ne (by omega), sb_set_ne (by omega), sb_set_eq]; rfl
    · rw [sb_set_ne (by omega), sb_set_eq]; rfl
  have R := sb_W_either (a := a) (k := 5) hn g1 (fun c W P u hW ho hM => sb_W_both hn gf (sb_W_fac hn 5) hW ho hM) (W := []) trivial rfl m0
  generalize ss_setI (ss_setI (ss_setI s 187 29 (0 : Int32)) 187 30 (0 : Int32)) 187 31 (0 : Int32) = u0 at f0 m0 R ⊢
  have F0 := sb_F202 f0
  unfold sb_exp
  generalize sb_mo t n 124 110000 (sb_mo t n 38 100000 (sb_fac t n 5)) a = p at R g z38 ⊢
  obtain ⟨g, g2⟩ := g
  unfold sb_gp at g
  show sb_W (F_Mo_takesE_b17 ss_F (sb_n 1) u0) _
  by_cases w : p.1 = true
  · obtain ⟨i, v, u2, i1, i2, i3, i4, i5⟩ := R.1 w
    rw [F0] at i2
    obtain ⟨u3, c1, c2, c3⟩ := sb_E_done (sb_ES_MT i5) (z38 w) (g2 w) (sb_ES_124 i5 trivial)
    have E := sb_go_end i3 c1 (8192 - (i + 1))
    rw [show 8192 - (i + 1) + (i + 1) = ss_F by unfold ss_F; omega] at E
    refine sb_Weq E ⟨by rw [w]; rfl, sb_fr_trans f0 (sb_fr_trans i4 c2), fun _ => ⟨v, i2, c3.1, c3.2.2.2.2.2.1.1⟩, fun z => by rw [w] at z; cases z⟩
  · have w' : p.1 = false := by simpa using w
    obtain ⟨i, u2, i1, i2, i3, i4⟩ := R.2 w'
    have E := i2 (8192 - i)
    rw [show 8192 - i + i = ss_F by unfold ss_F; omega] at E
    exact sb_Weq E ⟨by rw [w']; rfl, sb_fr_trans f0 i3, fun z => absurd z w, fun _ => i4⟩
end WF
