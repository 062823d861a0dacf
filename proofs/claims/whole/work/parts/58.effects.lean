/-! what was read is sound -/
def zb_ne (c : Int32) (d : Nat) : Nat := if c.toInt / 10000 = 9 then d else if c.toInt / 10000 = 10 ∨ c.toInt / 10000 = 11 then d - 1 else d + 1
def zb_en : List Int32 → Nat → Nat
  | [], d => d
  | c :: l, d => zb_en l (zb_ne c d)
theorem zb_mx_c {c : Int32} {l : List Int32} {d : Nat} : zb_mx (c :: l) d = max d (zb_mx l (zb_ne c d)) := rfl
theorem zb_en_app : ∀ (l l' : List Int32) (d : Nat), zb_en (l ++ l') d = zb_en l' (zb_en l d)
  | [], _, _ => rfl
  | _ :: l, l', d => zb_en_app l l' _
theorem zb_mx_ge : ∀ (l : List Int32) (d : Nat), d ≤ zb_mx l d
  | [], d => Nat.le_refl _
  | c :: l, d => by rw [zb_mx_c]; omega
theorem zb_mx_en : ∀ (l : List Int32) (d : Nat), zb_en l d ≤ zb_mx l d
  | [], d => Nat.le_refl _
  | c :: l, d => by rw [zb_mx_c]; have := zb_mx_en l (zb_ne c d); simp only [zb_en]; omega
theorem zb_mx_app : ∀ (l l' : List Int32) (d : Nat), zb_mx (l ++ l') d = max (zb_mx l d) (zb_mx l' (zb_en l d))
  | [], l', d => by simp only [List.nil_append, zb_mx, zb_en]; have := zb_mx_ge l' d; omega
  | c :: l, l', d => by rw [List.cons_append, zb_mx_c, zb_mx_c, zb_mx_app l l']; simp only [zb_en]; omega
/-- never does it take from what isn't there -/
def zb_okd : List Int32 → Nat → Prop
  | [], _ => True
  | c :: l, d => (c.toInt / 10000 = 9 → 1 ≤ d) ∧ (c.toInt / 10000 = 10 ∨ c.toInt / 10000 = 11 → 2 ≤ d) ∧ zb_okd l (zb_ne c d)
theorem zb_okd_app : ∀ (l l' : List Int32) (d : Nat), zb_okd l d → zb_okd l' (zb_en l d) → zb_okd (l ++ l') d
  | [], _, _, _, h => h
  | c :: l, l', d, h, h' => ⟨h.1, h.2.1, zb_okd_app l l' _ h.2.2 h'⟩
def zb_vd (m : Nat) (l : List Int32) : Prop := (∀ F, ∃ v, zb_val F l v) ∧ (∀ d, zb_en l d = d + 1) ∧ (∀ d, zb_mx l d ≤ d + m) ∧ (∀ c, c ∈ l → 0 ≤ c.toInt ∧ c.toInt ≤ 119999) ∧ ∀ d, zb_okd l d
theorem zb_vd_mono {m m' : Nat} {l : List Int32} (h : zb_vd m l) (hm : m ≤ m') : zb_vd m' l := ⟨h.1, h.2.1, fun d => by have := h.2.2.1 d; omega, h.2.2.2⟩
theorem zb_vd_test {k x : Int} (hk : 0 ≤ k) (hk8 : k ≤ 8) (hx : 0 ≤ x) (hx9 : x ≤ 9999) : zb_vd 1 [zb_i (k * 10000 + x)] := by
  have t : (zb_i (k * 10000 + x)).toInt = k * 10000 + x := zb_ti (by omega) (by omega)
  have e : ∀ d, zb_ne (zb_i (k * 10000 + x)) d = d + 1 := fun d => by unfold zb_ne; rw [t, if_neg (by omega), if_neg (by omega)]
  refine ⟨fun F => ⟨_, zb_val_test hk hk8 hx hx9⟩, fun d => by simp only [zb_en, e], fun d => ?_, fun c hc => ?_, fun d => ?_⟩
  · rw [zb_mx_c, e]; simp only [zb_mx]; omega
  · simp at hc; rw [hc, t]; omega
  · exact ⟨by rw [t]; omega, by rw [t]; omega, trivial⟩
theorem zb_vd_not {m : Nat} {l : List Int32} (h : zb_vd m l) (hm : 1 ≤ m) : zb_vd m (l ++ [zb_i 90000]) := by
  have t : (zb_i 90000).toInt = 90000 := zb_ti (by omega) (by omega)
  have e : ∀ d, zb_ne (zb_i 90000) d = d := fun d => by unfold zb_ne; rw [t]; rfl
  refine ⟨fun F => ?_, fun d => ?_, fun d => ?_, fun c hc => ?_, fun d => ?_⟩
  · obtain ⟨v, hv⟩ := h.1 F; exact ⟨_, zb_val_not hv⟩
  · rw [zb_en_app, h.2.1]; simp only [zb_en, e]
  · rw [zb_mx_app, h.2.1, zb_mx_c, e]; simp only [zb_mx]; have := h.2.2.1 d; omega
  · rw [List.mem_append] at hc
    rcases hc with hc | hc
    · exact h.2.2.2.1 c hc
    · simp at hc; rw [hc, t]; omega
  · exact zb_okd_app _ _ _ (h.2.2.2.2 d) (by rw [h.2.1]; exact ⟨by omega, by rw [t]; omega, trivial⟩)
theorem zb_vd_bin {m m' m2 : Nat} {l l' : List Int32} {z : Int} (hz : z = 100000 ∨ z = 110000) (h : zb_vd m l) (h' : zb_vd m' l') (h1 : m ≤ m2) (h2 : m' + 1 ≤ m2) : zb_vd m2 (l ++ l' ++ [zb_i z]) := by
  have t : (zb_i z).toInt = z := zb_ti (by omega) (by omega)
  have e : ∀ d, zb_ne (zb_i z) d = d - 1 := fun d => by unfold zb_ne; rw [t, if_neg (by omega), if_pos (by omega)]
  refine ⟨fun F => ?_, fun d => ?_, fun d => ?_, fun c hc => ?_, fun d => ?_⟩
  · obtain ⟨v, hv⟩ := h.1 F
    obtain ⟨w, hw⟩ := h'.1 F
    rcases hz with rfl | rfl
    · exact ⟨_, zb_val_and hv hw⟩
    · exact ⟨_, zb_val_or hv hw⟩
  · rw [zb_en_app, zb_en_app, h.2.1, h'.2.1]; simp only [zb_en, e]; omega
  · rw [zb_mx_app, zb_mx_app, zb_en_app, h.2.1, h'.2.1, zb_mx_c, e]; simp only [zb_mx]
    have a1 := h.2.2.1 d; have a2 := h'.2.2.1 (d + 1); have a3 := zb_mx_en l' (d + 1); rw [h'.2.1] at a3
    omega
  · rw [List.mem_append, List.mem_append] at hc
    rcases hc with (hc | hc) | hc
    · exact h.2.2.2.1 c hc
    · exact h'.2.2.2.1 c hc
    · simp at hc; rw [hc, t]; omega
  · exact zb_okd_app _ _ _ (zb_okd_app _ _ _ (h.2.2.2.2 d) (h'.2.2.2.2 _)) (by rw [zb_en_app, h.2.1, h'.2.1]; exact ⟨by omega, by omega, trivial⟩)
section EFF
variable {t : Nat → Int32} {n a : Nat}
theorem zb_vd_tnu {k : Int} (hk : 0 ≤ k) (hk8 : k ≤ 8) (ha : a ≤ n) (h : (zb_tnu t n k a).1 = true) : zb_vd 1 (zb_tnu t n k a).2.2 := by
  have g := zb_num4 (t := t) (n := n) (a := a) ha
  unfold zb_tnu at h ⊢
  by_cases q : zb_dg (zb_nc t n a) = true
  · rw [if_pos q]; exact zb_vd_test hk hk8 g.2.2.1 g.2.2.2
  · rw [if_neg q] at h; cases h
theorem zb_vd_tst (ha : a ≤ n) (h : (zb_tst t n a).1 = true) : zb_vd 1 (zb_tst t n a).2.2 := by
  have two : ∀ {c d : Nat}, c ≤ 127 → d ≤ 127 → zb_nc t n a = zb_n c → zb_nc t n (a + 1) = zb_n d → a + 2 ≤ n := fun hc hd h1 h2 => by have := zb_nc_lt hc h1; have := zb_nc_lt hd h2; omega
  unfold zb_tst at h ⊢
  split at h
  · next q => rw [if_pos q]; split at h
              · next q2 => rw [if_pos q2]; exact zb_vd_tnu (by omega) (by omega) (two (by omega) (by omega) q q2) h
              · cases h
  next q1 =>
  rw [if_neg q1]
  split at h
  · next q => rw [if_pos q]; split at h
              · next q2 => rw [if_pos q2]; exact zb_vd_tnu (by omega) (by omega) (two (by omega) (by omega) q q2) h
              · cases h
  next q2 =>
  rw [if_neg q2]
  split at h
  · next q => rw [if_pos q]; split at h
              · next q2 => rw [if_pos q2]; exact zb_vd_tnu (by omega) (by omega) (two (by omega) (by omega) q q2) h
              · cases h
  next q3 =>
  rw [if_neg q3]
  split at h
  · next q =>
      rw [if_pos q]; split at h
      · next q2 => rw [if_pos q2]; exact zb_vd_tnu (by omega) (by omega) (two (by omega) (by omega) q q2) h
      · next q2 =>
          rw [if_neg q2]; split at h
          · next q3 => rw [if_pos q3]; exact zb_vd_tnu (by omega) (by omega) (two (by omega) (by omega) q q3) h
          · cases h
  next q4 =>
  rw [if_neg q4]
  split at h
  · next q =>
      rw [if_pos q]; split at h
      · next q2 => rw [if_pos q2]; exact zb_vd_tnu (by omega) (by omega) (two (by omega) (by omega) q q2) h
      · next q2 =>
          rw [if_neg q2]; split at h
          · next q3 => rw [if_pos q3]; exact zb_vd_tnu (by omega) (by omega) (two (by omega) (by omega) q q3) h
          · cases h
  next q5 =>
  rw [if_neg q5]
  split at h
  · next q => rw [if_pos q]; exact zb_vd_test (k := 7) (x := 0) (by omega) (by omega) (by omega) (by omega)
  next q6 =>
  rw [if_neg q6]
  split at h
  · next q => rw [if_pos q]; exact zb_vd_test (k := 8) (x := 0) (by omega) (by omega) (by omega) (by omega)
  · cases h
theorem zb_vd_moL {sign : Nat} {z : Int} {f : Nat → zb_PR} {m M : Nat} (hz : z = 100000 ∨ z = 110000) (hs : sign ≤ 127) (hM : m + 1 ≤ M) (hgp : ∀ b, b ≤ n → zb_gp n b (f b)) (hf : ∀ b, b ≤ n → (f b).1 = true → zb_vd m (f b).2.2) : ∀ (k b : Nat) (st : List Int32), b ≤ n → zb_vd M st → (zb_moL t n sign z f k b st).1 = true → zb_vd M (zb_moL t n sign z f k b st).2.2 := by
  intro k
  induction k with
  | zero => intro b st _ h _; exact h
  | succ k ih =>
    intro b st hb h
    simp only [zb_moL]
    by_cases q : zb_nc t n b = zb_n sign
    · rw [if_pos q]
      have hlt := zb_nc_lt hs q
      have g := hgp (b + 1) (by omega)
      unfold zb_gp at g
      by_cases w : (f (b + 1)).1 = true
      · rw [if_pos w]
        exact ih _ _ (by omega) (zb_vd_bin hz h (hf _ (by omega) w) (Nat.le_refl _) hM)
      · rw [if_neg w]; exact fun z => by cases z
    · rw [if_neg q]; exact fun _ => h
theorem zb_vd_mo {sign : Nat} {z : Int} {f : Nat → zb_PR} {m : Nat} (hz : z = 100000 ∨ z = 110000) (hs : sign ≤ 127) (hgp : ∀ b, b ≤ n → zb_gp n b (f b)) (hf : ∀ b, b ≤ n → (f b).1 = true → zb_vd m (f b).2.2) (ha : a ≤ n) (h : (zb_mo t n sign z f a).1 = true) : zb_vd (m + 1) (zb_mo t n sign z f a).2.2 := by
  have g := hgp a ha
  unfold zb_gp at g
  unfold zb_mo at h ⊢
  by_cases w : (f a).1 = true
  · rw [if_pos w] at h ⊢
    exact zb_vd_moL hz hs (Nat.le_refl _) hgp hf _ _ _ (by omega) (zb_vd_mono (hf a ha w) (by omega)) h
  · rw [if_neg w] at h; exact absurd h w
theorem zb_vd_fac (hn : n ≤ 140) : ∀ (k a : Nat), a ≤ n → (zb_fac t n k a).1 = true → zb_vd (2 * k + 1) (zb_fac t n k a).2.2 := by
  intro k
  induction k with
  | zero => intro a ha h; simp only [zb_fac] at h ⊢; exact zb_vd_tst ha h
  | succ k ih =>
    intro a ha
    simp only [zb_fac]
    by_cases q : zb_nc t n a = zb_n 33
    · rw [if_pos q]
      have hlt := zb_nc_lt (by omega) q
      intro h
      exact zb_vd_not (zb_vd_mono (ih (a + 1) (by omega) h) (by omega)) (by omega)
    · rw [if_neg q]
      by_cases q2 : zb_nc t n a = zb_n 40
      · rw [if_pos q2]
        have hlt := zb_nc_lt (by omega) q2
        have gf := zb_fac_gp (t := t) hn k
        have g1 : ∀ b, b ≤ n → zb_gp n b (zb_mo t n 38 100000 (zb_fac t n k) b) := fun b hb => (zb_mo_gp (by omega) gf hb hn).1
        have V := zb_vd_mo (t := t) (a := a + 1) (sign := 124) (z := 110000) (Or.inr rfl) (by omega) g1 (fun b hb => zb_vd_mo (t := t) (sign := 38) (z := 100000) (Or.inl rfl) (by omega) gf ih hb) (by omega)
        generalize zb_mo t n 124 110000 (zb_mo t n 38 100000 (zb_fac t n k)) (a + 1) = p at V ⊢
        by_cases w : p.1 = true
        · rw [if_pos w]
          split
          · exact fun _ => zb_vd_mono (V w) (by omega)
          · exact fun z => by cases z
        · rw [if_neg w]; exact fun z => absurd z w
      · rw [if_neg q2]; exact fun h => zb_vd_mono (zb_vd_tst ha h) (by omega)
theorem zb_vd_exp (hn : n ≤ 140) (ha : a ≤ n) (h : (zb_exp t n a).1 = true) : zb_vd 13 (zb_exp t n a).2.2 := by
  have gf := zb_fac_gp (t := t) hn 5
  have g1 : ∀ b, b ≤ n → zb_gp n b (zb_mo t n 38 100000 (zb_fac t n 5) b) := fun b hb => (zb_mo_gp (by omega) gf hb hn).1
  exact zb_vd_mo (t := t) (sign := 124) (z := 110000) (Or.inr rfl) (by omega) g1 (fun b hb => zb_vd_mo (t := t) (sign := 38) (z := 100000) (Or.inl rfl) (by omega) gf (zb_vd_fac hn 5) hb) ha h
/-- a sound effect -/
def zb_eok (e : zb_EF) : Prop := (e.1 = 0 ∧ 0 ≤ e.2.2.1 ∧ ((((1 ≤ e.2.1 ∧ e.2.1 ≤ 5) ∨ (10 ≤ e.2.1 ∧ e.2.1 ≤ 19)) ∧ e.2.2.1 ≤ 9999) ∨ (e.2.1 = 6 ∧ e.2.2.1 ≤ 1) ∨ (20 ≤ e.2.1 ∧ e.2.1 ≤ 39 ∧ e.2.2.1 ≤ 9))) ∨ ((e.1 = 1 ∨ e.1 = 2) ∧ zb_vd 13 e.2.2.2)
theorem zb_sp_ok {f : Nat → zb_CR} (ha : a ≤ n) (hf : ∀ b, b ≤ n → (f b).1 = true → zb_eok (f b).2.2 ∧ (f b).2.1 ≤ n) (h : (zb_sp t n f a).1 = true) : zb_eok (zb_sp t n f a).2.2 ∧ (zb_sp t n f a).2.1 ≤ n := by
  unfold zb_sp at h ⊢
  by_cases q : zb_nc t n a = zb_n 32
  · have := zb_nc_lt (by omega) q
    rw [if_pos q] at h ⊢; exact hf _ (by omega) h
  · rw [if_neg q] at h; cases h
theorem zb_nIn_ok {k : Nat} (hk : (1 ≤ k ∧ k ≤ 5) ∨ (10 ≤ k ∧ k ≤ 19)) (ha : a ≤ n) (h : (zb_nIn t n k a).1 = true) : zb_eok (zb_nIn t n k a).2.2 ∧ (zb_nIn t n k a).2.1 ≤ n := by
  have g := zb_num4 (t := t) (n := n) (a := a) ha
  unfold zb_nIn at h ⊢
  by_cases q : zb_dg (zb_nc t n a) = true
  · rw [if_pos q]; exact ⟨Or.inl ⟨rfl, g.2.2.1, Or.inl ⟨hk, g.2.2.2⟩⟩, g.2.1⟩
  · rw [if_neg q] at h; cases h
theorem zb_g2_ok {g : Nat} (hg : g < 20) (ha : a ≤ n) (h : (zb_g2 t n g a).1 = true) : zb_eok (zb_g2 t n g a).2.2 ∧ (zb_g2 t n g a).2.1 ≤ n := by
  unfold zb_g2 at h ⊢
  refine zb_sp_ok ha (fun b hb hh => ?_) h
  by_cases q : zb_dg (zb_nc t n b) = true
  · have := zb_dg_lt q
    obtain ⟨g1, g2, _⟩ := zb_di1_rg q
    rw [if_pos q]; exact ⟨Or.inl ⟨rfl, g1, Or.inr (Or.inr ⟨show 20 ≤ 20 + g by omega, show 20 + g ≤ 39 by omega, g2⟩)⟩, by dsimp only; omega⟩
  · rw [if_neg q] at hh; cases hh
theorem zb_cl_ok (hn : n ≤ 140) (ha : a ≤ n) (h : (zb_cl t n a).1 = true) : zb_eok (zb_cl t n a).2.2 ∧ (zb_cl t n a).2.1 ≤ n := by
  obtain ⟨w1, w2, w3, w4⟩ := zb_wd_rg (t := t) (n := n) (a := a) ha
  unfold zb_cl at h ⊢
  generalize zb_wd t n a = w at *
  unfold zb_bw at h ⊢
  by_cases c1 : w.1 = -1
  · rw [if_pos c1] at h; cases h
  rw [if_neg c1] at h ⊢
  by_cases c2 : w.1 = 0
  · rw [if_pos c2] at h ⊢
    unfold zb_good at h ⊢
    refine zb_sp_ok w4 (fun b hb hh => ?_) h
    by_cases q : zb_dg (zb_nc t n b) = true
    · have hlt := zb_dg_lt q
      obtain ⟨g1, g2, _⟩ := zb_di1_rg q
      rw [if_pos q] at hh ⊢
      by_cases q2 : zb_di1 t n b = 1 ∧ zb_dg (zb_nc t n (b + 1)) = true
      · have hlt2 := zb_dg_lt q2.2
        obtain ⟨k1, k2, _⟩ := zb_di1_rg q2.2
        rw [if_pos q2] at hh ⊢; exact zb_g2_ok (by omega) (by omega) hh
      · rw [if_neg q2] at hh ⊢; exact zb_g2_ok (by omega) (by omega) hh
    · rw [if_neg q] at hh; cases hh
  rw [if_neg c2] at h ⊢
  by_cases c3 : w.1 = 6
  · rw [if_pos c3]; exact ⟨Or.inl ⟨rfl, show (0 : Int) ≤ 1 by decide, Or.inr (Or.inl ⟨rfl, show (1 : Int) ≤ 1 by decide⟩)⟩, w4⟩
  rw [if_neg c3] at h ⊢
  by_cases c4 : w.1 = 7
  · rw [if_pos c4]; exact ⟨Or.inl ⟨rfl, show (0 : Int) ≤ 0 by decide, Or.inr (Or.inl ⟨rfl, show (0 : Int) ≤ 1 by decide⟩)⟩, w4⟩
  rw [if_neg c4] at h ⊢
  have X : ∀ tag : Nat, (tag = 1 ∨ tag = 2) → (zb_xp t n tag w.2).1 = true → zb_eok (zb_xp t n tag w.2).2.2 ∧ (zb_xp t n tag w.2).2.1 ≤ n := by
    intro tag ht hx
    unfold zb_xp at hx ⊢
    refine zb_sp_ok w4 (fun b hb hh => ?_) hx
    have g1 : ∀ b, b ≤ n → zb_gp n b (zb_mo t n 38 100000 (zb_fac t n 5) b) := fun b hb => (zb_mo_gp (by omega) (zb_fac_gp (t := t) hn 5) hb hn).1
    have g := (zb_mo_gp (t := t) (sign := 124) (step := 110000) (a := b) (by omega) g1 hb hn).1
    exact ⟨Or.inr ⟨ht, zb_vd_exp hn hb hh⟩, g.2.1⟩
  by_cases c5 : w.1 = 8
  · rw [if_pos c5] at h ⊢
    unfold zb_most at h ⊢
    refine zb_sp_ok w4 (fun b hb hh => ?_) h
    by_cases q : zb_dg (zb_nc t n b) = true
    · have hlt := zb_dg_lt q
      obtain ⟨g1, g2, _⟩ := zb_di1_rg q
      rw [if_pos q] at hh ⊢
      exact zb_sp_ok (by omega) (fun c hc hcc => zb_nIn_ok (by omega) hc hcc) hh
    · rw [if_neg q] at hh; cases hh
  rw [if_neg c5] at h ⊢
  by_cases c6 : w.1 = 9
  · rw [if_pos c6] at h ⊢; exact X 1 (Or.inl rfl) h
  rw [if_neg c6] at h ⊢
  by_cases c7 : w.1 = 10
  · rw [if_pos c7] at h ⊢; exact X 2 (Or.inr rfl) h
  rw [if_neg c7] at h ⊢
  exact zb_sp_ok w4 (fun c hc hcc => zb_nIn_ok (by omega) hc hcc) h
theorem zb_cls_ok (hn : n ≤ 140) : ∀ (k a : Nat), a ≤ n → (zb_cls t n k a).1 = true → ∀ e, e ∈ (zb_cls t n k a).2.2 → zb_eok e := by
  intro k
  induction k with
  | zero => intro a _ h; cases h
  | succ k ih =>
    intro a ha
    simp only [zb_cls]
    by_cases w : (zb_cl t n a).1 = true
    · obtain ⟨c1, c2⟩ := zb_cl_ok hn ha w
      rw [if_pos w]
      by_cases q : (zb_cl t n a).2.1 = n
      · rw [if_pos q]; intro _ e he; simp at he; rw [he]; exact c1
      · rw [if_neg q]
        split
        · intro z; cases z
        · split
          · next q2 =>
              have hlt := zb_nc_lt (by omega) q2
              intro z e he
              simp only [List.mem_cons] at he
              rcases he with rfl | he
              · exact c1
              · exact ih _ (by omega) z e he
          · intro z; cases z
    · rw [if_neg w]; intro z; cases z
/-- values: those that a text sets, else those before -/
theorem zb_apl_or : ∀ (l : List zb_EF), (∀ e, e ∈ l → zb_eok e) → ∀ (U V : Nat → Int) (w : Nat), (U w < 0 ∨ U w = V w) → (0 ≤ zb_apl l U w ∧ zb_apl l V w = zb_apl l U w) ∨ (zb_apl l U w < 0 ∧ zb_apl l V w = V w)
  | [], _, U, V, w, h => by
    show (0 ≤ U w ∧ V w = U w) ∨ (U w < 0 ∧ V w = V w)
    by_cases q : U w < 0
    · exact Or.inr ⟨q, rfl⟩
    · rcases h with h | h
      · exact absurd h q
      · exact Or.inl ⟨by omega, h.symm⟩
  | e :: l, hl, U, V, w, h => by
    simp only [zb_apl]
    have he := hl e (by simp)
    have ih := zb_apl_or l (fun x hx => hl x (by simp [hx])) (zb_ap e U) (zb_ap e V) w
    by_cases q : e.1 = 0 ∧ w = e.2.1
    · have e1 : zb_ap e U w = e.2.2.1 := by unfold zb_ap; rw [if_pos q.1]; exact if_pos q.2
      have e2 : zb_ap e V w = e.2.2.1 := by unfold zb_ap; rw [if_pos q.1]; exact if_pos q.2
      have := ih (Or.inr (e1.trans e2.symm))
      have pos : 0 ≤ e.2.2.1 := by
        rcases he with he | he
        · exact he.2.1
        · omega
      have keep : ∀ (l : List zb_EF), (∀ e, e ∈ l → zb_eok e) → ∀ W : Nat → Int, 0 ≤ W w → 0 ≤ zb_apl l W w := by
        intro l
        induction l with
        | nil => intro _ W h; exact h
        | cons x l ih =>
          intro hl W hW
          simp only [zb_apl]
          refine ih (fun y hy => hl y (by simp [hy])) _ ?_
          have hx := hl x (by simp)
          unfold zb_ap
          by_cases z : x.1 = 0
          · rw [if_pos z]
            show 0 ≤ (if w = x.2.1 then x.2.2.1 else W w)
            split
            · rcases hx with hx | hx
              · exact hx.2.1
              · omega
            · exact hW
          · rw [if_neg z]; exact hW
      have k2 := keep l (fun x hx => hl x (by simp [hx])) (zb_ap e U) (by rw [e1]; exact pos)
      omega
    · have e1 : zb_ap e U w = U w := by
        unfold zb_ap
        by_cases z : e.1 = 0
        · rw [if_pos z]; exact if_neg (fun y => q ⟨z, y⟩)
        · rw [if_neg z]
      have e2 : zb_ap e V w = V w := by
        unfold zb_ap
        by_cases z : e.1 = 0
        · rw [if_pos z]; exact if_neg (fun y => q ⟨z, y⟩)
        · rw [if_neg z]
      have := ih (by rw [e1, e2]; exact h)
      rw [e2] at this
      exact this
theorem zb_tgl_hd {F : Nat → Int32} {tag : Nat} : ∀ (l : List zb_EF), (∀ e, e ∈ l → zb_eok e) → 1 ≤ tag → ∀ (b d : Bool) (L : List Int32), (L = [] ∧ b = d) ∨ (∃ v, zb_val F L v ∧ b = v) → zb_tgl F tag l b = zb_hd F (zb_lst tag l L) d
  | [], _, _, b, d, L, h => by
    simp only [zb_tgl, zb_lst]
    rcases h with ⟨rfl, rfl⟩ | ⟨v, hv, rfl⟩
    · unfold zb_hd; rw [if_pos rfl]
    · exact (zb_hd_val hv).1.symm
  | e :: l, hl, ht, b, d, L, h => by
    simp only [zb_tgl, zb_lst]
    refine zb_tgl_hd l (fun x hx => hl x (by simp [hx])) ht _ d _ ?_
    by_cases q : e.1 = tag
    · rw [if_pos q, if_pos q]
      rcases hl e (by simp) with he | he
      · omega
      · obtain ⟨v, hv⟩ := he.2.1 F
        exact Or.inr ⟨v, hv, (zb_hd_val hv).1⟩
    · rw [if_neg q, if_neg q]; exact h
/-- bounds of values -/
theorem zb_apl_rg : ∀ (l : List zb_EF), (∀ e, e ∈ l → zb_eok e) → ∀ (V : Nat → Int), (∀ w, -1 ≤ V w ∧ V w ≤ 9999 ∧ (w = 6 → V w ≤ 1) ∧ (20 ≤ w → V w ≤ 9)) → ∀ w, -1 ≤ zb_apl l V w ∧ zb_apl l V w ≤ 9999 ∧ (w = 6 → zb_apl l V w ≤ 1) ∧ (20 ≤ w → zb_apl l V w ≤ 9)
  | [], _, V, hV, w => hV w
  | e :: l, hl, V, hV, w => by
    simp only [zb_apl]
    refine zb_apl_rg l (fun x hx => hl x (by simp [hx])) _ (fun k => ?_) w
    have he := hl e (by simp)
    unfold zb_ap
    by_cases z : e.1 = 0
    · rw [if_pos z]
      show -1 ≤ (if k = e.2.1 then e.2.2.1 else V k) ∧ (if k = e.2.1 then e.2.2.1 else V k) ≤ 9999 ∧ (k = 6 → (if k = e.2.1 then e.2.2.1 else V k) ≤ 1) ∧ (20 ≤ k → (if k = e.2.1 then e.2.2.1 else V k) ≤ 9)
      by_cases q : k = e.2.1
      · rw [if_pos q]
        · rcases he with he | he
          · have := he.2; omega
          · omega
      · rw [if_neg q]; exact hV k
    · rw [if_neg z]; exact hV k
end EFF
