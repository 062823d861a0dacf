/-! factors, both, either: the model goes as the class does -/
/-- tops: anything; not '!' and not '&'; nor '|' -/
def zb_tA (W : List Int32) : Prop := True
def zb_tB : List Int32 → Prop
  | [] => True
  | x :: _ => x ≠ zb_n 33 ∧ x ≠ zb_n 38
def zb_tC : List Int32 → Prop
  | [] => True
  | x :: _ => x ≠ zb_n 33 ∧ x ≠ zb_n 38 ∧ x ≠ zb_n 124
theorem zb_tB_tA {W : List Int32} (_ : zb_tB W) : zb_tA W := trivial
theorem zb_tC_tB {W : List Int32} (h : zb_tC W) : zb_tB W := by
  cases W with
  | nil => trivial
  | cons x W => exact ⟨h.1, h.2.1⟩
theorem zb_tB_stop {W : List Int32} (h : zb_tB W) : zb_stop (zb_n 38) W := by
  cases W with
  | nil => trivial
  | cons x W => exact ⟨h.2, fun _ => rfl⟩
theorem zb_tC_stop {W : List Int32} (h : zb_tC W) : zb_stop (zb_n 124) W := by
  cases W with
  | nil => trivial
  | cons x W => exact ⟨h.2.1, fun e => absurd e h.2.2⟩
section WF
variable {t : Nat → Int32} {n a base : Nat} {s : sv_S} {W : List Int32} {P : List Bool}
theorem zb_BS_MT {v : Bool} (h : zb_BS t n a base W P v s) : zb_MT t n a base s := by
  rcases h with h | ⟨_, _, _, h⟩
  · exact h.1
  · exact h.1
theorem zb_ES_MT {v : Bool} (h : zb_ES t n a base W P v s) : zb_MT t n a base s := by
  rcases h with h | ⟨_, _, _, h⟩
  · exact zb_BS_MT h
  · exact zb_BS_MT h
theorem zb_BS_mk {v v2 : Bool} (h : zb_ME t n a base (zb_pn (zb_n 38 :: W) v2).2 ((zb_pn (zb_n 38 :: W) v2).1 :: v :: P) s) : zb_BS t n a base W P (v && v2) s := by
  have e : zb_pn (zb_n 38 :: W) v2 = (v2, zb_n 38 :: W) := by simp only [zb_pn]; rw [if_neg (by decide)]
  rw [e] at h
  exact Or.inr ⟨v, v2, rfl, h⟩
theorem zb_ES_mk {v v2 : Bool} (h : zb_BS t n a base (zb_n 124 :: W) (v :: P) v2 s) : zb_ES t n a base W P (v || v2) s := Or.inr ⟨v, v2, rfl, h⟩
theorem zb_pn_tB {v : Bool} (h : zb_tB W) : zb_pn W v = (v, W) := by
  cases W with
  | nil => rfl
  | cons x W => simp only [zb_pn]; rw [if_neg h.1]
theorem zb_BS_first {v : Bool} (hW : zb_tB W) (h : zb_ME t n a base (zb_pn W v).2 ((zb_pn W v).1 :: P) s) : zb_BS t n a base W P v s := by
  rw [zb_pn_tB hW] at h; exact Or.inl h
theorem zb_ES_first {v : Bool} (_ : zb_tC W) (h : zb_BS t n a base W P v s) : zb_ES t n a base W P v s := Or.inl h
theorem zb_moL_le {sign : Nat} {step : Int} {f : Nat → zb_PR} (hgp : ∀ b, b ≤ n → zb_gp n b (f b)) (hs : sign ≤ 127) : ∀ (m b : Nat) (st : List Int32), b ≤ n → b ≤ (zb_moL t n sign step f m b st).2.1 ∧ (zb_moL t n sign step f m b st).2.1 ≤ n := by
  intro m
  induction m with
  | zero => intro b st hb; exact ⟨Nat.le_refl _, hb⟩
  | succ m ih =>
    intro b st hb
    simp only [zb_moL]
    by_cases q : zb_nc t n b = zb_n sign
    · rw [if_pos q]
      have hlt := zb_nc_lt hs q
      have g := hgp (b + 1) (by omega)
      unfold zb_gp at g
      split
      · have := ih (f (b + 1)).2.1 (st ++ (f (b + 1)).2.2 ++ [zb_i step]) (by omega)
        omega
      · dsimp only; omega
    · rw [if_neg q]; exact ⟨Nat.le_refl _, hb⟩
theorem zb_W_bothL {k : Nat} {f : Nat → zb_PR} (hn : n ≤ 140) (hgp : ∀ b, b ≤ n → zb_gp n b (f b))
    (hf : ∀ (b : Nat) (W : List Int32) (P : List Bool) (u : sv_S), zb_tA W → zb_op W + k = 5 → zb_ME t n b base W P u → zb_FT (zb_n 1) b u (f b) (fun v w => zb_ME t n (f b).2.1 base (zb_pn W v).2 ((zb_pn W v).1 :: P) w)) :
    ∀ (m b : Nat) (st : List Int32) (W : List Int32) (P : List Bool) (v : Bool) (u : sv_S), zb_tB W → zb_op W + k = 5 → b ≤ n → zb_val (u.1 202) st v → zb_BS t n b base W P v u → zb_FT (zb_n 0) b u (zb_moL t n 38 100000 f m b st) (fun v w => zb_BS t n (zb_moL t n 38 100000 f m b st).2.1 base W P v w) := by
  intro m
  induction m with
  | zero =>
    intro b st W P v u hW hk hb hv h
    simp only [zb_moL]
    refine ⟨fun _ => ⟨0, v, u, by omega, hv, fun m => rfl, zb_fr_refl _ _, h⟩, fun q => by cases q⟩
  | succ m ih =>
    intro b st W P v u hW hk hb hv h
    simp only [zb_moL]
    by_cases q : zb_nc t n b = zb_n 38
    · rw [if_pos q]
      have hlt := zb_nc_lt (by omega) q
      have g := hgp (b + 1) (by omega)
      unfold zb_gp at g
      obtain ⟨u1, s1, s2, s3⟩ := zb_E_sign (c := 38) (Or.inl rfl) (zb_BS_MT h) q (zb_BS_38 h (zb_tB_stop hW))
      have R := hf (b + 1) (zb_n 38 :: W) (v :: P) u1 trivial (by simp only [zb_op]; rw [if_neg (by decide)]; omega) s2
      have F1 := zb_F202 s3
      by_cases w : (f (b + 1)).1 = true
      · rw [if_pos w]
        obtain ⟨i, v2, u2, i1, i2, i3, i4, i5⟩ := R.1 w
        rw [F1] at i2
        have F2 := zb_F202 (zb_fr_trans s3 i4)
        have IH := ih (f (b + 1)).2.1 (st ++ (f (b + 1)).2.2 ++ [zb_i 100000]) W P (v && v2) u2 hW hk (by omega) (by rw [F2]; exact zb_val_and hv i2) (zb_BS_mk i5)
        have g2 := (zb_moL_gp (t := t) (step := 100000) (a := b) (sign := 38) (by omega) hgp m (f (b + 1)).2.1 (st ++ (f (b + 1)).2.2 ++ [zb_i 100000]))
        have mono := zb_moL_le (t := t) (n := n) (sign := 38) (step := 100000) hgp (by omega) m (f (b + 1)).2.1 (st ++ (f (b + 1)).2.2 ++ [zb_i 100000]) (by omega)
        have gt := g.2.2.2 w
        refine ⟨fun z => ?_, fun z => ?_⟩
        · obtain ⟨j, v3, u3, j1, j2, j3, j4, j5⟩ := IH.1 z
          rw [F2] at j2
          exact ⟨1 + (i + j), v3, u3, by omega, j2, zb_go_go s1 (zb_go_go i3 j3), zb_fr_trans (zb_fr_trans s3 i4) j4, j5⟩
        · obtain ⟨j, u3, j1, j2, j3, j4⟩ := IH.2 z
          exact ⟨1 + (i + j), u3, by omega, zb_go_end s1 (zb_go_end i3 j2), zb_fr_trans (zb_fr_trans s3 i4) j3, j4⟩
      · rw [if_neg w]
        have w' : (f (b + 1)).1 = false := by simpa using w
        refine ⟨fun z => (by cases z), fun _ => ?_⟩
        obtain ⟨i, u2, i1, i2, i3, i4⟩ := R.2 w'
        exact ⟨1 + i, u2, by dsimp only; omega, zb_go_end s1 i2, zb_fr_trans s3 i3, i4⟩
    · rw [if_neg q]
      refine ⟨fun _ => ⟨0, v, u, by omega, hv, fun m => rfl, zb_fr_refl _ _, h⟩, fun z => by cases z⟩
theorem zb_W_both {k : Nat} {f : Nat → zb_PR} (hn : n ≤ 140) (hgp : ∀ b, b ≤ n → zb_gp n b (f b))
    (hf : ∀ (b : Nat) (W : List Int32) (P : List Bool) (u : sv_S), zb_tA W → zb_op W + k = 5 → zb_ME t n b base W P u → zb_FT (zb_n 1) b u (f b) (fun v w => zb_ME t n (f b).2.1 base (zb_pn W v).2 ((zb_pn W v).1 :: P) w))
    (hW : zb_tB W) (hk : zb_op W + k = 5) (h : zb_ME t n a base W P s) : zb_FT (zb_n 1) a s (zb_mo t n 38 100000 f a) (fun v w => zb_BS t n (zb_mo t n 38 100000 f a).2.1 base W P v w) := by
  have hb := h.1.1
  have g := hgp a (by omega)
  unfold zb_gp at g
  have R := hf a W P s (zb_tB_tA hW) hk h
  unfold zb_mo
  by_cases w : (f a).1 = true
  · rw [if_pos w]
    obtain ⟨i, v, u, i1, i2, i3, i4, i5⟩ := R.1 w
    have F1 := zb_F202 i4
    have L := zb_W_bothL hn hgp hf 140 (f a).2.1 (f a).2.2 W P v u hW hk (by omega) (by rw [F1]; exact i2) (zb_BS_first hW i5)
    have mono := zb_moL_le (t := t) (n := n) (sign := 38) (step := 100000) hgp (by omega) 140 (f a).2.1 (f a).2.2 (by omega)
    refine ⟨fun z => ?_, fun z => ?_⟩
    · obtain ⟨j, v3, u3, j1, j2, j3, j4, j5⟩ := L.1 z
      rw [F1] at j2
      exact ⟨i + j, v3, u3, by omega, j2, zb_go_go i3 j3, zb_fr_trans i4 j4, j5⟩
    · obtain ⟨j, u3, j1, j2, j3, j4⟩ := L.2 z
      exact ⟨i + j, u3, by omega, zb_go_end i3 j2, zb_fr_trans i4 j3, j4⟩
  · rw [if_neg w]
    have w' : (f a).1 = false := by simpa using w
    exact ⟨fun z => absurd z w, fun _ => R.2 w'⟩
theorem zb_W_eitherL {k : Nat} {f : Nat → zb_PR} (hn : n ≤ 140) (hgp : ∀ b, b ≤ n → zb_gp n b (f b))
    (hf : ∀ (b : Nat) (W : List Int32) (P : List Bool) (u : sv_S), zb_tB W → zb_op W + k = 5 → zb_ME t n b base W P u → zb_FT (zb_n 1) b u (f b) (fun v w => zb_BS t n (f b).2.1 base W P v w)) :
    ∀ (m b : Nat) (st : List Int32) (W : List Int32) (P : List Bool) (v : Bool) (u : sv_S), zb_tC W → zb_op W + k = 5 → b ≤ n → zb_val (u.1 202) st v → zb_ES t n b base W P v u → zb_FT (zb_n 0) b u (zb_moL t n 124 110000 f m b st) (fun v w => zb_ES t n (zb_moL t n 124 110000 f m b st).2.1 base W P v w) := by
  intro m
  induction m with
  | zero =>
    intro b st W P v u hW hk hb hv h
    simp only [zb_moL]
    refine ⟨fun _ => ⟨0, v, u, by omega, hv, fun m => rfl, zb_fr_refl _ _, h⟩, fun q => by cases q⟩
  | succ m ih =>
    intro b st W P v u hW hk hb hv h
    simp only [zb_moL]
    by_cases q : zb_nc t n b = zb_n 124
    · rw [if_pos q]
      have hlt := zb_nc_lt (by omega) q
      have g := hgp (b + 1) (by omega)
      unfold zb_gp at g
      obtain ⟨u1, s1, s2, s3⟩ := zb_E_sign (c := 124) (Or.inr rfl) (zb_ES_MT h) q (zb_ES_124 h (zb_tC_stop hW))
      have R := hf (b + 1) (zb_n 124 :: W) (v :: P) u1 ⟨by decide, by decide⟩ (by simp only [zb_op]; rw [if_neg (by decide)]; omega) s2
      have F1 := zb_F202 s3
      by_cases w : (f (b + 1)).1 = true
      · rw [if_pos w]
        obtain ⟨i, v2, u2, i1, i2, i3, i4, i5⟩ := R.1 w
        rw [F1] at i2
        have F2 := zb_F202 (zb_fr_trans s3 i4)
        have IH := ih (f (b + 1)).2.1 (st ++ (f (b + 1)).2.2 ++ [zb_i 110000]) W P (v || v2) u2 hW hk (by omega) (by rw [F2]; exact zb_val_or hv i2) (zb_ES_mk i5)
        have g2 := (zb_moL_gp (t := t) (step := 110000) (a := b) (sign := 124) (by omega) hgp m (f (b + 1)).2.1 (st ++ (f (b + 1)).2.2 ++ [zb_i 110000]))
        have mono := zb_moL_le (t := t) (n := n) (sign := 124) (step := 110000) hgp (by omega) m (f (b + 1)).2.1 (st ++ (f (b + 1)).2.2 ++ [zb_i 110000]) (by omega)
        have gt := g.2.2.2 w
        refine ⟨fun z => ?_, fun z => ?_⟩
        · obtain ⟨j, v3, u3, j1, j2, j3, j4, j5⟩ := IH.1 z
          rw [F2] at j2
          exact ⟨1 + (i + j), v3, u3, by omega, j2, zb_go_go s1 (zb_go_go i3 j3), zb_fr_trans (zb_fr_trans s3 i4) j4, j5⟩
        · obtain ⟨j, u3, j1, j2, j3, j4⟩ := IH.2 z
          exact ⟨1 + (i + j), u3, by omega, zb_go_end s1 (zb_go_end i3 j2), zb_fr_trans (zb_fr_trans s3 i4) j3, j4⟩
      · rw [if_neg w]
        have w' : (f (b + 1)).1 = false := by simpa using w
        refine ⟨fun z => (by cases z), fun _ => ?_⟩
        obtain ⟨i, u2, i1, i2, i3, i4⟩ := R.2 w'
        exact ⟨1 + i, u2, by dsimp only; omega, zb_go_end s1 i2, zb_fr_trans s3 i3, i4⟩
    · rw [if_neg q]
      refine ⟨fun _ => ⟨0, v, u, by omega, hv, fun m => rfl, zb_fr_refl _ _, h⟩, fun z => by cases z⟩
theorem zb_W_either {k : Nat} {f : Nat → zb_PR} (hn : n ≤ 140) (hgp : ∀ b, b ≤ n → zb_gp n b (f b))
    (hf : ∀ (b : Nat) (W : List Int32) (P : List Bool) (u : sv_S), zb_tB W → zb_op W + k = 5 → zb_ME t n b base W P u → zb_FT (zb_n 1) b u (f b) (fun v w => zb_BS t n (f b).2.1 base W P v w))
    (hW : zb_tC W) (hk : zb_op W + k = 5) (h : zb_ME t n a base W P s) : zb_FT (zb_n 1) a s (zb_mo t n 124 110000 f a) (fun v w => zb_ES t n (zb_mo t n 124 110000 f a).2.1 base W P v w) := by
  have hb := h.1.1
  have g := hgp a (by omega)
  unfold zb_gp at g
  have R := hf a W P s (zb_tC_tB hW) hk h
  unfold zb_mo
  by_cases w : (f a).1 = true
  · rw [if_pos w]
    obtain ⟨i, v, u, i1, i2, i3, i4, i5⟩ := R.1 w
    have F1 := zb_F202 i4
    have L := zb_W_eitherL hn hgp hf 140 (f a).2.1 (f a).2.2 W P v u hW hk (by omega) (by rw [F1]; exact i2) (zb_ES_first hW i5)
    have mono := zb_moL_le (t := t) (n := n) (sign := 124) (step := 110000) hgp (by omega) 140 (f a).2.1 (f a).2.2 (by omega)
    refine ⟨fun z => ?_, fun z => ?_⟩
    · obtain ⟨j, v3, u3, j1, j2, j3, j4, j5⟩ := L.1 z
      rw [F1] at j2
      exact ⟨i + j, v3, u3, by omega, j2, zb_go_go i3 j3, zb_fr_trans i4 j4, j5⟩
    · obtain ⟨j, u3, j1, j2, j3, j4⟩ := L.2 z
      exact ⟨i + j, u3, by omega, zb_go_end i3 j2, zb_fr_trans i4 j3, j4⟩
  · rw [if_neg w]
    have w' : (f a).1 = false := by simpa using w
    exact ⟨fun z => absurd z w, fun _ => R.2 w'⟩
/-- behind either no '&' stands -/
theorem zb_moL_Z {sign : Nat} {step : Int} {f : Nat → zb_PR} {Z : Nat → Prop} (hf : ∀ b, (f b).1 = true → Z (f b).2.1) : ∀ (m b : Nat) (st : List Int32), Z b → (zb_moL t n sign step f m b st).1 = true → Z (zb_moL t n sign step f m b st).2.1 := by
  intro m
  induction m with
  | zero => intro b st hb _; exact hb
  | succ m ih =>
    intro b st hb
    simp only [zb_moL]
    by_cases q : zb_nc t n b = zb_n sign
    · rw [if_pos q]
      by_cases w : (f (b + 1)).1 = true
      · rw [if_pos w]; exact ih _ _ (hf _ w)
      · rw [if_neg w]; exact fun z => by cases z
    · rw [if_neg q]; exact fun _ => hb
theorem zb_mo_38 {f : Nat → zb_PR} (hn : n ≤ 140) (hgp : ∀ b, b ≤ n → zb_gp n b (f b)) (ha : a ≤ n) (h : (zb_mo t n 124 110000 (zb_mo t n 38 100000 f) a).1 = true) : zb_nc t n (zb_mo t n 124 110000 (zb_mo t n 38 100000 f) a).2.1 ≠ zb_n 38 := by
  have g1 : ∀ b, b ≤ n → zb_gp n b (zb_mo t n 38 100000 f b) := fun b hb => (zb_mo_gp (by omega) hgp hb hn).1
  have key : ∀ b, b ≤ n → (zb_mo t n 38 100000 f b).1 = true → zb_nc t n (zb_mo t n 38 100000 f b).2.1 ≠ zb_n 38 := fun b hb => (zb_mo_gp (by omega) hgp hb hn).2
  -- beyond the end nothing is read, so places stay within
  have all : ∀ (m b : Nat) (st : List Int32), b ≤ n → zb_nc t n b ≠ zb_n 38 → (zb_moL t n 124 110000 (zb_mo t n 38 100000 f) m b st).1 = true → zb_nc t n (zb_moL t n 124 110000 (zb_mo t n 38 100000 f) m b st).2.1 ≠ zb_n 38 := by
    intro m
    induction m with
    | zero => intro b st _ hb _; exact hb
    | succ m ih =>
      intro b st hbn hb
      simp only [zb_moL]
      by_cases q : zb_nc t n b = zb_n 124
      · rw [if_pos q]
        have hlt := zb_nc_lt (by omega) q
        by_cases w : (zb_mo t n 38 100000 f (b + 1)).1 = true
        · rw [if_pos w]
          have g := g1 (b + 1) (by omega)
          unfold zb_gp at g
          exact ih _ _ (by omega) (key (b + 1) (by omega) w)
        · rw [if_neg w]; exact fun z => by cases z
      · rw [if_neg q]; exact fun _ => hb
  have e : zb_mo t n 124 110000 (zb_mo t n 38 100000 f) a = if (zb_mo t n 38 100000 f a).1 = true then zb_moL t n 124 110000 (zb_mo t n 38 100000 f) 140 (zb_mo t n 38 100000 f a).2.1 (zb_mo t n 38 100000 f a).2.2 else zb_mo t n 38 100000 f a := rfl
  rw [e] at h ⊢
  by_cases w : (zb_mo t n 38 100000 f a).1 = true
  · rw [if_pos w] at h ⊢
    have g := g1 a ha
    unfold zb_gp at g
    exact all _ _ _ (by omega) (key a ha w) h
  · rw [if_neg w] at h; exact absurd h w
theorem zb_W_fac (hn : n ≤ 140) : ∀ (k : Nat) (b : Nat) (W : List Int32) (P : List Bool) (u : sv_S), zb_tA W → zb_op W + k = 5 → zb_ME t n b base W P u → zb_FT (zb_n 1) b u (zb_fac t n k b) (fun v w => zb_ME t n (zb_fac t n k b).2.1 base (zb_pn W v).2 ((zb_pn W v).1 :: P) w) := by
  intro k
  induction k with
  | zero =>
    intro b W P u _ hk h
    simp only [zb_fac]
    by_cases q1 : zb_nc t n b = zb_n 33
    · have e : zb_tst t n b = (false, b, []) := by unfold zb_tst; rw [q1]; simp only [show ¬ zb_n 33 = zb_n 103 by decide, show ¬ zb_n 33 = zb_n 99 by decide, show ¬ zb_n 33 = zb_n 111 by decide, show ¬ zb_n 33 = zb_n 116 by decide, show ¬ zb_n 33 = zb_n 100 by decide, show ¬ zb_n 33 = zb_n 98 by decide, show ¬ zb_n 33 = zb_n 120 by decide, if_false]
      rw [e]
      exact ⟨fun z => (by cases z), fun _ => ⟨1, u, by omega, zb_E_full (Or.inl rfl) h q1 (by omega), zb_fr_refl _ _, h.1.2.2.2.1⟩⟩
    · by_cases q2 : zb_nc t n b = zb_n 40
      · have e : zb_tst t n b = (false, b, []) := by unfold zb_tst; rw [q2]; simp only [show ¬ zb_n 40 = zb_n 103 by decide, show ¬ zb_n 40 = zb_n 99 by decide, show ¬ zb_n 40 = zb_n 111 by decide, show ¬ zb_n 40 = zb_n 116 by decide, show ¬ zb_n 40 = zb_n 100 by decide, show ¬ zb_n 40 = zb_n 98 by decide, show ¬ zb_n 40 = zb_n 120 by decide, if_false]
        rw [e]
        exact ⟨fun z => (by cases z), fun _ => ⟨1, u, by omega, zb_E_full (Or.inr rfl) h q2 (by omega), zb_fr_refl _ _, h.1.2.2.2.1⟩⟩
      · exact zb_E_test h q1 q2
  | succ k ih =>
    intro b W P u _ hk h
    have hb := h.1.1
    have gf := zb_fac_gp (t := t) hn k
    simp only [zb_fac]
    by_cases q1 : zb_nc t n b = zb_n 33
    · rw [if_pos q1]
      have hlt := zb_nc_lt (by omega) q1
      obtain ⟨u1, s1, s2, s3⟩ := zb_E_open (Or.inl rfl) h q1 (by omega)
      have g := gf (b + 1) (by omega)
      unfold zb_gp at g
      have R := ih (b + 1) (zb_n 33 :: W) P u1 trivial (by simp only [zb_op]; rw [if_pos (by decide)]; omega) s2
      have F1 := zb_F202 s3
      refine ⟨fun z => ?_, fun z => ?_⟩
      · obtain ⟨i, v, u2, i1, i2, i3, i4, i5⟩ := R.1 z
        rw [F1] at i2
        have e : zb_pn (zb_n 33 :: W) v = zb_pn W (!v) := by simp only [zb_pn]; rw [if_pos trivial]
        rw [e] at i5
        exact ⟨1 + i, !v, u2, by dsimp only; omega, zb_val_not i2, zb_go_go s1 i3, zb_fr_trans s3 i4, i5⟩
      · obtain ⟨i, u2, i1, i2, i3, i4⟩ := R.2 z
        exact ⟨1 + i, u2, by dsimp only; omega, zb_go_end s1 i2, zb_fr_trans s3 i3, i4⟩
    · rw [if_neg q1]
      by_cases q2 : zb_nc t n b = zb_n 40
      · rw [if_pos q2]
        have hlt := zb_nc_lt (by omega) q2
        obtain ⟨u1, s1, s2, s3⟩ := zb_E_open (Or.inr rfl) h q2 (by omega)
        have g1 : ∀ b, b ≤ n → zb_gp n b (zb_mo t n 38 100000 (zb_fac t n k) b) := fun b hb => (zb_mo_gp (by omega) gf hb hn).1
        have g := zb_mo_gp (t := t) (sign := 124) (step := 110000) (a := b + 1) (by omega) g1 (by omega) hn
        have z38 := zb_mo_38 (t := t) (a := b + 1) hn gf (by omega)
        have R := zb_W_either (a := b + 1) (k := k) hn g1 (fun c W P u hW ho hM => zb_W_both hn gf ih hW ho hM) (W := zb_n 40 :: W) ⟨by decide, by decide, by decide⟩ (by simp only [zb_op]; rw [if_pos (by decide)]; omega) s2
        have F1 := zb_F202 s3
        generalize zb_mo t n 124 110000 (zb_mo t n 38 100000 (zb_fac t n k)) (b + 1) = p at R g z38 ⊢
        obtain ⟨g, g2⟩ := g
        unfold zb_gp at g
        by_cases w : p.1 = true
        · rw [if_pos w]
          obtain ⟨i, v, u2, i1, i2, i3, i4, i5⟩ := R.1 w
          rw [F1] at i2
          have gt := g.2.2.2 w
          have ST := zb_ES_124 i5 ⟨by decide, by decide⟩
          by_cases q3 : zb_nc t n p.2.1 = zb_n 41
          · rw [if_pos q3]
            obtain ⟨u3, c1, c2, c3⟩ := zb_E_close (zb_ES_MT i5) q3 ST
            exact ⟨fun _ => ⟨1 + (i + 1), v, u3, by dsimp only; omega, i2, zb_go_go s1 (zb_go_go i3 c1), zb_fr_trans s3 (zb_fr_trans i4 c3), c2⟩, fun z => by cases z⟩
          · rw [if_neg q3]
            obtain ⟨u3, c1, c2, c3⟩ := zb_E_bad (zb_ES_MT i5) (z38 w) (g2 w) q3 ST
            exact ⟨fun z => (by cases z), fun _ => ⟨1 + (i + 1), u3, by dsimp only; omega, zb_go_end s1 (zb_go_end i3 c1), zb_fr_trans s3 (zb_fr_trans i4 c2), c3⟩⟩
        · rw [if_neg w]
          have w' : p.1 = false := by simpa using w
          refine ⟨fun z => absurd z w, fun _ => ?_⟩
          obtain ⟨i, u2, i1, i2, i3, i4⟩ := R.2 w'
          exact ⟨1 + i, u2, by omega, zb_go_end s1 i2, zb_fr_trans s3 i3, i4⟩
      · rw [if_neg q2]
        exact zb_E_test h q1 q2
/-- a whole expression -/
theorem zb_Mo_exp (h : zb_MT t n a base s) : zb_W (F_Mo_takesE s) (fun r => r.1 = zb_b (zb_exp t n a).1 ∧ zb_fr zb_ZE s r.2 ∧ ((zb_exp t n a).1 = true → ∃ v, zb_val (s.1 202) (zb_exp t n a).2.2 v ∧ zb_MT t n (zb_exp t n a).2.1 base r.2 ∧ r.2.1 204 0 = zb_b v) ∧ ((zb_exp t n a).1 = false → r.2.1 187 25 = zb_n (zb_exp t n a).2.1)) := by
  have hb := h.1
  have hn := hb.1
  have gf := zb_fac_gp (t := t) hn 5
  have g1 : ∀ b, b ≤ n → zb_gp n b (zb_mo t n 38 100000 (zb_fac t n 5) b) := fun b hb => (zb_mo_gp (by omega) gf hb hn).1
  have g := zb_mo_gp (t := t) (sign := 124) (step := 110000) (a := a) (by omega) g1 (by omega) hn
  have z38 := zb_mo_38 (t := t) (a := a) hn gf (by omega)
  unfold F_Mo_takesE
  refine zb_Wlet (zb_Wlet (zb_Wlet ?_))
  have f0 : zb_fr zb_ZE s (ss_setI (ss_setI (ss_setI s 187 29 (0 : Int32)) 187 30 (0 : Int32)) 187 31 (0 : Int32)) := zb_fr_set (zb_fr_set (zb_fr_set (zb_fr_refl _ _) rfl) rfl) rfl
  have m0 : zb_ME t n a base [] [] (ss_setI (ss_setI (ss_setI s 187 29 (0 : Int32)) 187 30 (0 : Int32)) 187 31 (0 : Int32)) := by
    refine ⟨zb_MT_fr (L := [187029, 187030, 187031]) h (zb_fr_set (zb_fr_set (zb_fr_set (zb_fr_refl _ _) rfl) rfl) rfl) (by decide), ⟨Nat.zero_le _, Nat.zero_le _⟩, ?_, trivial, ?_, trivial, zb_set_eq⟩
    · rw [zb_set_ne (by omega), zb_set_ne (by omega), zb_set_eq]; rfl
    · rw [zb_set_ne (by omega), zb_set_eq]; rfl
  have R := zb_W_either (a := a) (k := 5) hn g1 (fun c W P u hW ho hM => zb_W_both hn gf (zb_W_fac hn 5) hW ho hM) (W := []) trivial rfl m0
  generalize ss_setI (ss_setI (ss_setI s 187 29 (0 : Int32)) 187 30 (0 : Int32)) 187 31 (0 : Int32) = u0 at f0 m0 R ⊢
  have F0 := zb_F202 f0
  unfold zb_exp
  generalize zb_mo t n 124 110000 (zb_mo t n 38 100000 (zb_fac t n 5)) a = p at R g z38 ⊢
  obtain ⟨g, g2⟩ := g
  unfold zb_gp at g
  show zb_W (F_Mo_takesE_b17 ss_F (zb_n 1) u0) _
  by_cases w : p.1 = true
  · obtain ⟨i, v, u2, i1, i2, i3, i4, i5⟩ := R.1 w
    rw [F0] at i2
    obtain ⟨u3, c1, c2, c3⟩ := zb_E_done (zb_ES_MT i5) (z38 w) (g2 w) (zb_ES_124 i5 trivial)
    have E := zb_go_end i3 c1 (8192 - (i + 1))
    rw [show 8192 - (i + 1) + (i + 1) = ss_F by unfold ss_F; omega] at E
    refine zb_Weq E ⟨by rw [w]; rfl, zb_fr_trans f0 (zb_fr_trans i4 c2), fun _ => ⟨v, i2, c3.1, c3.2.2.2.2.2.1.1⟩, fun z => by rw [w] at z; cases z⟩
  · have w' : p.1 = false := by simpa using w
    obtain ⟨i, u2, i1, i2, i3, i4⟩ := R.2 w'
    have E := i2 (8192 - i)
    rw [show 8192 - i + i = ss_F by unfold ss_F; omega] at E
    exact zb_Weq E ⟨by rw [w']; rfl, zb_fr_trans f0 i3, fun z => absurd z w, fun _ => i4⟩
end WF
