/-! what was read is sound -/
def sb_ne (c : Int32) (d : Nat) : Nat := if c.toInt / 10000 = 9 then d else if c.toInt / 10000 = 10 ∨ c.toInt / 10000 = 11 then d - 1 else d + 1
def sb_en : List Int32 → Nat → Nat
  | [], d => d
  | c :: l, d => sb_en l (sb_ne c d)
theorem sb_mx_c {c : Int32} {l : List Int32} {d : Nat} : sb_mx (c :: l) d = max d (sb_mx l (sb_ne c d)) := rfl
theorem sb_en_app : ∀ (l l' : List Int32) (d : Nat), sb_en (l ++ l') d = sb_en l' (sb_en l d)
  | [], _, _ => rfl
  | _ :: l, l', d => sb_en_app l l' _
theorem sb_mx_ge : ∀ (l : List Int32) (d : Nat), d ≤ sb_mx l d
  | [], d => Nat.le_refl _
  | c :: l, d => by rw [sb_mx_c]; omega
theorem sb_mx_en : ∀ (l : List Int32) (d : Nat), sb_en l d ≤ sb_mx l d
  | [], d => Nat.le_refl _
  | c :: l, d => by rw [sb_mx_c]; have := sb_mx_en l (sb_ne c d); simp only [sb_en]; omega
theorem sb_mx_app : ∀ (l l' : List Int32) (d : Nat), sb_mx (l ++ l') d = max (sb_mx l d) (sb_mx l' (sb_en l d))
  | [], l', d => by simp only [List.nil_append, sb_mx, sb_en]; have := sb_mx_ge l' d; omega
  | c :: l, l', d => by rw [List.cons_append, sb_mx_c, sb_mx_c, sb_mx_app l l']; simp only [sb_en]; omega
/-- never does it take from what isn't there -/
def sb_okd : List Int32 → Nat → Prop
  | [], _ => True
  | c :: l, d => (c.toInt / 10000 = 9 → 1 ≤ d) ∧ (c.toInt / 10000 = 10 ∨ c.toInt / 10000 = 11 → 2 ≤ d) ∧ sb_okd l (sb_ne c d)
theorem sb_okd_app : ∀ (l l' : List Int32) (d : Nat), sb_okd l d → sb_okd l' (sb_en l d) → sb_okd (l ++ l') d
  | [], _, _, _, h => h
  | c :: l, l', d, h, h' => ⟨h.1, h.2.1, sb_okd_app l l' _ h.2.2 h'⟩
def sb_vd (m : Nat) (l : List Int32) : Prop := (∀ F, ∃ v, sb_val F l v) ∧ (∀ d, sb_en l d = d + 1) ∧ (∀ d, sb_mx l d ≤ d + m) ∧ (∀ c, c ∈ l → 0 ≤ c.toInt ∧ c.toInt ≤ 119999) ∧ ∀ d, sb_okd l d
theorem sb_vd_mono {m m' : Nat} {l : List Int32} (h : sb_vd m l) (hm : m ≤ m') : sb_vd m' l := ⟨h.1, h.2.1, fun d => by have := h.2.2.1 d; omega, h.2.2.2⟩
theorem sb_vd_test {k x : Int} (hk : 0 ≤ k) (hk8 : k ≤ 8) (hx : 0 ≤ x) (hx9 : x ≤ 9999) : sb_vd 1 [sb_i (k * 10000 + x)] := by
  have t : (sb_i (k * 10000 + x)).toInt = k * 10000 + x := sb_ti (by omega) (by omega)
  have e : ∀ d, sb_ne (sb_i (k * 10000 + x)) d = d + 1 := fun d => by unfold sb_ne; rw [t, if_neg (by omega), if_neg (by omega)]
  refine ⟨fun F => ⟨_, sb_val_test hk hk8 hx hx9⟩, fun d => by simp only [sb_en, e], fun d => ?_, fun c hc => ?_, fun d => ?_⟩
  · rw [sb_mx_c, e]; simp only [sb_mx]; omega
  · simp at hc; rw [hc, t]; omega
  · exact ⟨by rw [t]; omega, by rw [t]; omega, trivial⟩
theorem sb_vd_not {m : Nat} {l : List Int32} (h : sb_vd m l) (hm : 1 ≤ m) : sb_vd m (l ++ [sb_i 90000]) := by
  have t : (sb_i 90000).toInt = 90000 := sb_ti (by omega) (by omega)
  have e : ∀ d, sb_ne (sb_i 90000) d = d := fun d => by unfold sb_ne; rw [t]; rfl
  refine ⟨fun F => ?_, fun d => ?_, fun d => ?_, fun c hc => ?_, fun d => ?_⟩
  · obtain ⟨v, hv⟩ := h.1 F; exact ⟨_, sb_val_not hv⟩
  · rw [sb_en_app, h.2.1]; simp only [sb_en, e]
  · rw [sb_mx_app, h.2.1, sb_mx_c, e]; simp only [sb_mx]; have := h.2.2.1 d; omega
  · rw [List.mem_append] at hc
    rcases hc with hc | hc
    · exact h.2.2.2.1 c hc
    · simp at hc; rw [hc, t]; omega
  · exact sb_okd_app _ _ _ (h.2.2.2.2 d) (by rw [h.2.1]; exact ⟨by omega, by rw [t]; omega, trivial⟩)
theorem sb_vd_bin {m m' m2 : Nat} {l l' : List Int32} {z : Int} (hz : z = 100000 ∨ z = 110000) (h : sb_vd m l) (h' : sb_vd m' l') (h1 : m ≤ m2) (h2 : m' + 1 ≤ m2) : sb_vd m2 (l ++ l' ++ [sb_i z]) := by
  have t : (sb_i z).toInt = z := sb_ti (by omega) (by omega)
  have e : ∀ d, sb_ne (sb_i z) d = d - 1 := fun d => by unfold sb_ne; rw [t, if_neg (by omega), if_pos (by omega)]
  refine ⟨fun F => ?_, fun d => ?_, fun d => ?_, fun c hc => ?_, fun d => ?_⟩
  · obtain ⟨v, hv⟩ := h.1 F
    obtain ⟨w, hw⟩ := h'.1 F
    rcases hz with rfl | rfl
    · exact ⟨_, sb_val_and hv hw⟩
    · exact ⟨_, sb_val_or hv hw⟩
  · rw [sb_en_app, sb_en_app, h.2.1, h'.2.1]; simp only [sb_en, e]; omega
  · rw [sb_mx_app, sb_mx_app, sb_en_app, h.2.1, h'.2.1, sb_mx_c, e]; simp only [sb_mx]
    have a1 := h.2.2.1 d; have a2 := h'.2.2.1 (d + 1); have a3 := sb_mx_en l' (d + 1); rw [h'.2.1] at a3
    omega
  · rw [List.mem_append, List.mem_append] at hc
    rcases hc with (hc | hc) | hc
    · exact h.2.2.2.1 c hc
    · exact h'.2.2.2.1 c hc
    · simp at hc; rw [hc, t]; omega
  · exact sb_okd_app _ _ _ (sb_okd_app _ _ _ (h.2.2.2.2 d) (h'.2.2.2.2 _)) (by rw [sb_en_app, h.2.1, h'.2.1]; exact ⟨by omega, by omega, trivial⟩)
section EFF
variable {t : Nat → Int32} {n a : Nat}
theorem sb_vd_tnu {k : Int} (hk : 0 ≤ k) (hk8 : k ≤ 8) (ha : a ≤ n) (h : (sb_tnu t n k a).1 = true) : sb_vd 1 (sb_tnu t n k a).2.2 := by
  have g := sb_num4 (t := t) (n := n) (a := a) ha
  unfold sb_tnu at h ⊢
  by_cases q : sb_dg (sb_nc t n a) = true
  · rw [if_pos q]; exact sb_vd_test hk hk8 g.2.2.1 g.2.2.2
  · rw [if_neg q] at h; cases h
theorem sb_vd_tst (ha : a ≤ n) (h : (sb_tst t n a).1 = true) : sb_vd 1 (sb_tst t n a).2.2 := by
  have two : ∀ {c d : Nat}, c ≤ 127 → d ≤ 127 → sb_nc t n a = sb_n c → sb_nc t n (a + 1) = sb_n d → a + 2 ≤ n := fun hc hd h1 h2 => by have := sb_nc_lt hc h1; have := sb_nc_lt hd h2; omega
  unfold sb_tst at h ⊢
  split at h
  · next q => rw [if_pos q]; split at h
              · next q2 => rw [if_pos q2]; exact sb_vd_tnu (by omega) (by omega) (two (by omega) (by omega) q q2) h
              · cases h
  next q1 =>
  rw [if_neg q1]
  split at h
  · next q => rw [if_pos q]; split at h
              · next q2 => rw [if_pos q2]; exact sb_vd_tnu (by omega) (by omega) (two (by omega) (by omega) q q2) h
              · cases h
  next q2 =>
  rw [if_neg q2]
  split at h
  · next q => rw [if_pos q]; split at h
              · next q2 => rw [if_pos q2]; exact sb_vd_tnu (by omega) (by omega) (two (by omega) (by omega) q q2) h
              · cases h
  next q3 =>
  rw [if_neg q3]
  split at h
  · next q =>
      rw [if_pos q]; split at h
      · next q2 => rw [if_pos q2]; exact sb_vd_tnu (by omega) (by omega) (two (by omega) (by omega) q q2) h
      · next q2 =>
          rw [if_neg q2]; split at h
          · next q3 => rw [if_pos q3]; exact sb_vd_tnu (by omega) (by omega) (two (by omega) (by omega) q q3) h
          · cases h
  next q4 =>
  rw [if_neg q4]
  split at h
  · next q =>
      rw [if_pos q]; split at h
      · next q2 => rw [if_pos q2]; exact sb_vd_tnu (by omega) (by omega) (two (by omega) (by omega) q q2) h
      · next q2 =>
          rw [if_neg q2]; split at h
          · next q3 => rw [if_pos q3]; exact sb_vd_tnu (by omega) (by omega) (two (by omega) (by omega) q q3) h
          · cases h
  next q5 =>
  rw [if_neg q5]
  split at h
  · next q => rw [if_pos q]; exact sb_vd_test (k := 7) (x := 0) (by omega) (by omega) (by omega) (by omega)
  next q6 =>
  rw [if_neg q6]
  split at h
  · next q => rw [if_pos q]; exact sb_vd_test (k := 8) (x := 0) (by omega) (by omega) (by omega) (by omega)
  · cases h
theorem sb_vd_moL {sign : Nat} {z : Int} {f : Nat → sb_PR} {m M : Nat} (hz : z = 100000 ∨ z = 110000) (hs : sign ≤ 127) (hM : m + 1 ≤ M) (hgp : ∀ b, b ≤ n → sb_gp n b (f b)) (hf : ∀ b, b ≤ n → (f b).1 = true → sb_vd m (f b).2.2) : ∀ (k b : Nat) (st : List Int32), b ≤ n → sb_vd M st → (sb_moL t n sign z f k b st).1 = true → sb_vd M (sb_moL t n sign z f k b st).2.2 := by
  intro k
  induction k with
  | zero => intro b st _ h _; exact h
  | succ k ih =>
    intro b st hb h
    simp only [sb_moL]
    by_cases q : sb_nc t n b = sb_n sign
    · rw [if_pos q]
      have hlt := sb_nc_lt hs q
      have g := hgp (b + 1) (by omega)
      unfold sb_gp at g
      by_cases w : (f (b + 1)).1 = true
      · rw [if_pos w]
        exact ih _ _ (by omega) (sb_vd_bin hz h (hf _ (by omega) w) (Nat.le_refl _) hM)
      · rw [if_neg w]; exact fun z => by cases z
    · rw [if_neg q]; exact fun _ => h
theorem sb_vd_mo {sign : Nat} {z : Int} {f : Nat → sb_PR} {m : Nat} (hz : z = 100000 ∨ z = 110000) (hs : sign ≤ 127) (hgp : ∀ b, b ≤ n → sb_gp n b (f b)) (hf : ∀ b, b ≤ n → (f b).1 = true → sb_vd m (f b).2.2) (ha : a ≤ n) (h : (sb_mo t n sign z f a).1 = true) : sb_vd (m + 1) (sb_mo t n sign z f a).2.2 := by
  have g := hgp a ha
  unfold sb_gp at g
  unfold sb_mo at h ⊢
  by_cases w : (f a).1 = true
  · rw [if_pos w] at h ⊢
    exact sb_vd_moL hz hs (Nat.le_refl _) hgp hf _ _ _ (by omega) (sb_vd_mono (hf a ha w) (by omega)) h
  · rw [if_neg w] at h; exact absurd h w
theorem sb_vd_fac (hn : n ≤ 140) : ∀ (k a : Nat), a ≤ n → (sb_fac t n k a).1 = true → sb_vd (2 * k + 1) (sb_fac t n k a).2.2 := by
  intro k
  induction k with
  | zero => intro a ha h; simp only [sb_fac] at h ⊢; exact sb_vd_tst ha h
  | succ k ih =>
    intro a ha
    simp only [sb_fac]
    by_cases q : sb_nc t n a = sb_n 33
    · rw [if_pos q]
      have hlt := sb_nc_lt (by omega) q
      intro h
      exact sb_vd_not (sb_vd_mono (ih (a + 1) (by omega) h) (by omega)) (by omega)
    · rw [if_neg q]
      by_cases q2 : sb_nc t n a = sb_n 40
      · rw [if_pos q2]
        have hlt := sb_nc_lt (by omega) q2
        have gf := sb_fac_gp (t := t) hn k
        have g1 : ∀ b, b ≤ n → sb_gp n b (sb_mo t n 38 100000 (sb_fac t n k) b) := fun b hb => (sb_mo_gp (by omega) gf hb hn).1
        have V := sb_vd_mo (t := t) (a := a + 1) (sign := 124) (z := 110000) (Or.inr rfl) (by omega) g1 (fun b hb => sb_vd_mo (t := t) (sign := 38) (z := 100000) (Or.inl rfl) (by omega) gf ih hb) (by omega)
        generalize sb_mo t n 124 110000 (sb_mo t n 38 100000 (sb_fac t n k)) (a + 1) = p at V ⊢
        by_cases w : p.1 = true
        · rw [if_pos w]
          split
          · exact fun _ => sb_vd_mono (V w) (by omega)
          · exact fun z => by cases z
        · rw [if_neg w]; exact fun z => absurd z w
      · rw [if_neg q2]; exact fun h => sb_vd_mono (sb_vd_tst ha h) (by omega)
theorem sb_vd_exp (hn : n ≤ 140) (ha : a ≤ n) (h : (sb_exp t n a).1 = true) : sb_vd 13 (sb_exp t n a).2.2 := by
  have gf := sb_fac_gp (t := t) hn 5
  have g1 : ∀ b, b ≤ n → sb_gp n b (sb_mo t n 38 100000 (sb_fac t n 5) b) := fun b hb => (sb_mo_gp (by omega) gf hb hn).1
  exact sb_vd_mo (t := t) (sign := 124) (z := 110000) (Or.inr rfl) (by omega) g1 (fun b hb => sb_vd_mo (t := t) (sign := 38) (z := 100000) (Or.inl rfl) (by omega) gf (sb_vd_fac hn 5) hb) ha h
/-- a sound effect -/
def sb_eok (e : sb_EF) : Prop := (e.1 = 0 ∧ 0 ≤ e.2.2.1 ∧ ((((1 ≤ e.2.1 ∧ e.2.1 ≤ 5) ∨ (10 ≤ e.2.1 ∧ e.2.1 ≤ 19)) ∧ e.2.2.1 ≤ 9999) ∨ (e.2.1 = 6 ∧ e.2.2.1 ≤ 1) ∨ (20 ≤ e.2.1 ∧ e.2.1 ≤ 39 ∧ e.2.2.1 ≤ 9))) ∨ ((e.1 = 1 ∨ e.1 = 2) ∧ sb_vd 13 e.2.2.2)
theorem sb_sp_ok {f : Nat → sb_CR} (ha : a ≤ n) (hf : ∀ b, b ≤ n → (f b).1 = true → sb_eok (f b).2.2 ∧ (f b).2.1 ≤ n) (h : (sb_sp t n f a).1 = true) : sb_eok (sb_sp t n f a).2.2 ∧ (sb_sp t n f a).2.1 ≤ n := by
  unfold sb_sp at h ⊢
  by_cases q : sb_nc t n a = sb_n 32
  · have := sb_nc_lt (by omega) q
    rw [if_pos q] at h ⊢; exact hf _ (by omega) h
  · rw [if_neg q] at h; cases h
theorem sb_nIn_ok {k : Nat} (hk : (1 ≤ k ∧ k ≤ 5) ∨ (10 ≤ k ∧ k ≤ 19)) (ha : a ≤ n) (h : (sb_nIn t n k a).1 = true) : sb_eok (sb_nIn t n k a).2.2 ∧ (sb_nIn t n k a).2.1 ≤ n := by
  have g := sb_num4 (t := t) (n := n) (a := a) ha
  unfold sb_nIn at h ⊢
  by_cases q : sb_dg (sb_nc t n a) = true
  · rw [if_pos q]; exact ⟨Or.inl ⟨rfl, g.2.2.1, Or.inl ⟨hk, g.2.2.2⟩⟩, g.2.1⟩
  · rw [if_neg q] at h; cases h
theorem sb_g2_ok {g : Nat} (hg : g < 20) (ha : a ≤ n) (h : (sb_g2 t n g a).1 = true) : sb_eok (sb_g2 t n g a).2.2 ∧ (sb_g2 t n g a).2.1 ≤ n := by
  unfold sb_g2 at h ⊢
  refine sb_sp_ok ha (fun b hb hh => ?_) h
  by_cases q : sb_dg (sb_nc t n b) = true
  · have := sb_dg_lt q
    obtain ⟨g1, g2, _⟩ := sb_di1_rg q
    rw [if_pos q]; exact ⟨Or.inl ⟨rfl, g1, Or.inr (Or.inr ⟨show 20 ≤ 20 + g by omega, show 20 + g ≤ 39 by omega, g2⟩)⟩, by dsimp only; omega⟩
  · rw [if_neg q] at hh; cases hh
theorem sb_cl_ok (hn : n ≤ 140) (ha : a ≤ n) (h : (sb_cl t n a).1 = true) : sb_eok (sb_cl t n a).2.2 ∧ (sb_cl t n a).2.1 ≤ n := by
  obtain ⟨w1, w2, w3, w4⟩ := sb_wd_rg (t := t) (n := n) (a := a) ha
  unfold sb_cl at h ⊢
  generalize sb_wd t n a = w at *
  unfold sb_bw at h ⊢
  by_cases c1 : w.1 = -1
  · rw [if_pos c1] at h; cases h
  rw [if_neg c1] at h ⊢
  by_cases c2 : w.1 = 0
  · rw [if_pos c2] at h ⊢
    unfold sb_good at h ⊢
    refine sb_sp_ok w4 (fun b hb hh => ?_) h
    by_cases q : sb_dg (sb_nc t n b) = true
    · have hlt := sb_dg_lt q
      obtain ⟨g1, g2, _⟩ := sb_di1_rg q
      rw [if_pos q] at hh ⊢
      by_cases q2 : sb_di1 t n b = 1 ∧ sb_dg (sb_nc t n (b + 1)) = true
      · have hlt2 := sb_dg_lt q2.2
        obtain ⟨k1, k2, _⟩ := sb_di1_rg q2.2
        rw [if_pos q2] at hh ⊢; exact sb_g2_ok (by omega) (by omega) hh
      · rw [if_neg q2] at hh ⊢; exact sb_g2_ok (by omega) (by omega) hh
    · rw [if_neg q] at hh; cases hh
  rw [if_neg c2] at h ⊢
  by_cases c3 : w.1 = 6
  · rw [if_pos c3]; exact ⟨Or.inl ⟨rfl, show (0 : Int) ≤ 1 by decide, Or.inr (Or.inl ⟨rfl, show (1 : Int) ≤ 1 by decide⟩)⟩, w4⟩
  rw [if_neg c3] at h ⊢
  by_cases c4 : w.1 = 7
  · rw [if_pos c4]; exact ⟨Or.inl ⟨rfl, show (0 : Int) ≤ 0 by decide, Or.inr (Or.inl ⟨rfl, show (0 : Int) ≤ 1 by decide⟩)⟩, w4⟩
  rw [if_neg c4] at h ⊢
  have X : ∀ tag : Nat, (tag = 1 ∨ tag = 2) → (sb_xp t n tag w.2).1 = true → sb_eok (sb_xp t n tag w.2).2.2 ∧ (sb_xp t n tag w.2).2.1 ≤ n := by
    intro tag ht hx
    unfold sb_xp at hx ⊢
    refine sb_sp_ok w4 (fun b hb hh => ?_) hx
    have g1 : ∀ b, b ≤ n → sb_gp n b (sb_mo t n 38 100000 (sb_fac t n 5) b) := fun b hb => (sb_mo_gp (by omega) (sb_fac_gp (t := t) hn 5) hb hn).1
    have g := (sb_mo_gp (t := t) (sign := 124) (step := 110000) (a := b) (by omega) g1 hb hn).1
    exact ⟨Or.inr ⟨ht, sb_vd_exp hn hb hh⟩, g.2.1⟩
  by_cases c5 : w.1 = 8
  · rw [if_pos c5] at h ⊢
    unfold sb_most at h ⊢
    refine sb_sp_ok w4 (fun b hb hh => ?_) h
    by_cases q : sb_dg (sb_nc t n b) = true
    · have hlt := sb_dg_lt q
      obtain ⟨g1, g2, _⟩ := sb_di1_rg q
      rw [if_pos q] at hh ⊢
      exact sb_sp_ok (by omega) (fun c hc hcc => sb_nIn_ok (by omega) hc hcc) hh
    · rw [if_neg q] at hh; cases hh
  rw [if_neg c5] at h ⊢
  by_cases c6 : w.1 = 9
  · rw [if_pos c6] at h ⊢; exact X 1 (Or.inl rfl) h
  rw [if_neg c6] at h ⊢
  by_cases c7 : w.1 = 10
  · rw [if_pos c7] at h ⊢; exact X 2 (Or.inr rfl) h
  rw [if_neg c7] at h ⊢
  exact sb_sp_ok w4 (fun c hc hcc => sb_nIn_ok (by omega) hc hcc) h
theorem sb_cls_ok (hn : n ≤ 140) : ∀ (k a : Nat), a ≤ n → (sb_cls t n k a).1 = true → ∀ e, e ∈ (sb_cls t n k a).2.2 → sb_eok e := by
  intro k
  induction k with
  | zero => intro a _ h; cases h
  | succ k ih =>
    intro a ha
    simp only [sb_cls]
    by_cases w : (sb_cl t n a).1 = true
    · obtain ⟨c1, c2⟩ := sb_cl_ok hn ha w
      rw [if_pos w]
      by_cases q : (sb_cl t n a).2.1 = n
      · rw [if_pos q]; intro _ e he; simp at he; rw [he]; exact c1
      · rw [if_neg q]
        split
        · intro z; cases z
        · split
          · next q2 =>
              have hlt := sb_nc_lt (by omega) q2
              intro z e he
              simp only [List.mem_cons] at he
              rcases he with rfl | he
              · exact c1
              · exact ih _ (by omega) z e he
          · intro z; cases z
    · rw [if_neg w]; intro z; cases z
/-- values: those that a text sets, else those before -/
theorem sb_apl_or : ∀ (l : List sb_EF), (∀ e, e ∈ l → sb_eok e) → ∀ (U V : Nat → Int) (w : Nat), (U w < 0 ∨ U w = V w) → (0 ≤ sb_apl l U w ∧ sb_apl l V w = sb_apl l U w) ∨ (sb_apl l U w < 0 ∧ sb_apl l V w = V w)
  | [], _, U, V, w, h => by
    show (0 ≤ U w ∧ V w = U w) ∨ (U w < 0 ∧ V w = V w)
    by_cases q : U w < 0
    · exact Or.inr ⟨q, rfl⟩
    · rcases h with h | h
      · exact absurd h q
      · exact Or.inl ⟨by omega, h.symm⟩
  | e :: l, hl, U, V, w, h => by
    simp only [sb_apl]
    have he := hl e (by simp)
    have ih := sb_apl_or l (fun x hx => hl x (by simp [hx])) (sb_ap e U) (sb_ap e V) w
    by_cases q : e.1 = 0 ∧ w = e.2.1
    · have e1 : sb_ap e U w = e.2.2.1 := by unfold sb_ap; rw [if_pos q.1]; exact if_pos q.2
      have e2 : sb_ap e V w = e.2.2.1 := by unfold sb_ap; rw [if_pos q.1]; exact if_pos q.2
      have := ih (Or.inr (e1.trans e2.symm))
      have pos : 0 ≤ e.2.2.1 := by
        rcases he with he | he
        · exact he.2.1
        · omega
      have keep : ∀ (l : List sb_EF), (∀ e, e ∈ l → sb_eok e) → ∀ W : Nat → Int, 0 ≤ W w → 0 ≤ sb_apl l W w := by
        intro l
        induction l with
        | nil => intro _ W h; exact h
        | cons x l ih =>
          intro hl W hW
          simp only [sb_apl]
          refine ih (fun y hy => hl y (by simp [hy])) _ ?_
          have hx := hl x (by simp)
          unfold sb_ap
          by_cases z : x.1 = 0
          · rw [if_pos z]
            show 0 ≤ (if w = x.2.1 then x.2.2.1 else W w)
            split
            · rcases hx with hx | hx
              · exact hx.2.1
              · omega
            · exact hW
          · rw [if_neg z]; exact hW
      have k2 := keep l (fun x hx => hl x (by simp [hx])) (sb_ap e U) (by rw [e1]; exact pos)
      omega
    · have e1 : sb_ap e U w = U w := by
        unfold sb_ap
        by_cases z : e.1 = 0
        · rw [if_pos z]; exact if_neg (fun y => q ⟨z, y⟩)
        · rw [if_neg z]
      have e2 : sb_ap e V w = V w := by
        unfold sb_ap
        by_cases z : e.1 = 0
        · rw [if_pos z]; exact if_neg (fun y => q ⟨z, y⟩)
        · rw [if_neg z]
      have := ih (by rw [e1, e2]; exact h)
      rw [e2] at this
      exact this
theorem sb_tgl_hd {F : Nat → Int32} {tag : Nat} : ∀ (l : List sb_EF), (∀ e, e ∈ l → sb_eok e) → 1 ≤ tag → ∀ (b d : Bool) (L : List Int32), (L = [] ∧ b = d) ∨ (∃ v, sb_val F L v ∧ b = v) → sb_tgl F tag l b = sb_hd F (sb_lst tag l L) d
  | [], _, _, b, d, L, h => by
    simp only [sb_tgl, sb_lst]
    rcases h with ⟨rfl, rfl⟩ | ⟨v, hv, rfl⟩
    · unfold sb_hd; rw [if_pos rfl]
    · exact (sb_hd_val hv).1.symm
  | e :: l, hl, ht, b, d, L, h => by
    simp only [sb_tgl, sb_lst]
    refine sb_tgl_hd l (fun x hx => hl x (by simp [hx])) ht _ d _ ?_
    by_cases q : e.1 = tag
    · rw [if_pos q, if_pos q]
      rcases hl e (by simp) with he | he
      · omega
      · obtain ⟨v, hv⟩ := he.2.1 F
        exact Or.inr ⟨v, hv, (sb_hd_val hv).1⟩
    · rw [if_neg q, if_neg q]; exact h
/-- bounds of values -/
theorem sb_apl_rg : ∀ (l : List sb_EF), (∀ e, e ∈ l → sb_eok e) → ∀ (V : Nat → Int), (∀ w, -1 ≤ V w ∧ V w ≤ 9999 ∧ (w = 6 → V w ≤ 1) ∧ (20 ≤ w → V w ≤ 9)) → ∀ w, -1 ≤ sb_apl l V w ∧ sb_apl l V w ≤ 9999 ∧ (w = 6 → sb_apl l V w ≤ 1) ∧ (20 ≤ w → sb_apl l V w ≤ 9)
  | [], _, V, hV, w => hV w
  | e :: l, hl, V, hV, w => by
    simp only [sb_apl]
    refine sb_apl_rg l (fun x hx => hl x (by simp [hx])) _ (fun k => ?_) w
    have he := hl e (by simp)
    unfold sb_ap
    by_cases z : e.1 = 0
    · rw [if_pos z]
      show -1 ≤ (if k = e.2.1 then e.2.2.1 else V k) ∧ (if k = e.2.1 then e.2.2.1 else V k) ≤ 9999 ∧ (k = 6 → (if k = e.2.1 then e.2.2.1 else V k) ≤ 1) ∧ (20 ≤ k → (if k = e.2.1 then e.2.2.1 else V k) ≤ 9)
      by_cases q : k = e.2.1
      · rw [if_pos q]
        · rcases he with he | he
          · have := he.2; omega
          · omega
      · rw [if_neg q]; exact hV k
    · rw [if_neg z]; exact hV k
end EFF
