/-! the class's reader of expressions -/
def zb_LT (t : Nat → Int32) (n a : Nat) (st : List Int32) (s : sv_S) : Prop :=
  (n ≤ 140 ∧ a ≤ n ∧ st.length ≤ a) ∧ s.1 77 3 = zb_n n ∧ s.1 77 4 = zb_n a ∧ s.1 77 5 = zb_n st.length ∧ (∀ i, i < n → s.1 78 i = t i) ∧ (∀ i, i < st.length → s.1 80 i = st.getD i 0)
section LT
variable {t : Nat → Int32} {n a : Nat} {st : List Int32} {s : sv_S}
theorem zb_LT_at {b : Nat} (h : zb_LT t n a st s) (hb : b ≤ n) (hst : st.length ≤ b) : zb_LT t n b st (ss_setI s 77 4 (zb_n b)) :=
  ⟨⟨h.1.1, hb, hst⟩, (zb_set_ne (by omega)).trans h.2.1, zb_set_eq, (zb_set_ne (by omega)).trans h.2.2.2.1, fun i hi => (zb_set_ne (by omega)).trans (h.2.2.2.2.1 i hi), fun i hi => (zb_set_ne (by omega)).trans (h.2.2.2.2.2 i hi)⟩
theorem zb_Lt_takes (h : zb_LT t n a st s) {c : Nat} (hc : c ≤ 127) : F_Lt_takes (zb_n c) s = some (if zb_nc t n a = zb_n c then (zb_n 1, ss_setI s 77 4 (zb_n (a + 1))) else (zb_n 0, s)) := by
  obtain ⟨⟨b1, b2, b3⟩, h1, h2, h3, h4, h5⟩ := h
  unfold F_Lt_takes
  simp (disch := omega) only [zb_lit, zb_n_add, zb_n_mul, zb_n_ix, zb_n_lt, zb_n_le, zb_n_eq, zb_ib_n, h1, h2, ss_let]
  by_cases q : a < n
  · rw [if_neg (by omega), if_pos (by omega), h4 a q]
    have e : zb_nc t n a = t a := by unfold zb_nc; rw [if_pos q]
    rw [e]
    by_cases u : t a = zb_n c
    · rw [if_pos u, if_pos u]
    · rw [if_neg u, if_neg u]
  · rw [if_pos (by omega), if_neg]
    intro w; exact q (zb_nc_lt hc w)
theorem zb_Lt_number_b4 {K : Nat} (hK : 1 ≤ K) (hK4 : K ≤ 4) : ∀ (m f d a : Nat) (v : Int) (u : sv_S), d + m = K → m < f → zb_LT t n a st u → zb_fr [77004] s u → zb_W (F_Lt_number_b4 f (zb_n K) (zb_i v) (zb_n d) u) (fun r => r.1 = zb_i (if d = 0 ∧ zb_dg (zb_nc t n a) = false then -1 else (zb_num t n m a v).1) ∧ zb_LT t n (zb_num t n m a v).2 st r.2 ∧ zb_fr [77004] s r.2) := by
  intro m
  induction m with
  | zero =>
    intro f d a v u hd hf h hfr
    obtain ⟨f, rfl⟩ : ∃ g, f = g + 1 := ⟨f - 1, by omega⟩
    simp only [F_Lt_number_b4]
    rw [zb_m1]
    refine zb_Wpos (by first | omega | (simp (disch := omega) only [zb_lit, zb_n_add, zb_n_mul, zb_n_ix, zb_n_lt, zb_n_le, zb_n_eq, zb_ib_n] <;> omega)) ?_
    refine zb_Wneg (by first | omega | (simp (disch := omega) only [zb_lit, zb_n_add, zb_n_mul, zb_n_ix, zb_n_lt, zb_n_le, zb_n_eq, zb_ib_n] <;> omega)) ?_
    refine zb_Wsome ⟨?_, h, hfr⟩
    rw [if_neg (by omega)]; rfl
  | succ m ih =>
    intro f d a v u hd hf h hfr
    obtain ⟨f, rfl⟩ : ∃ g, f = g + 1 := ⟨f - 1, by omega⟩
    have hb := h.1
    have h1 := h.2.1
    have h2 := h.2.2.1
    have h4 := h.2.2.2.2.1
    have out : zb_dg (zb_nc t n a) = false → zb_W (if d = 0 then some (zb_i (-1), u) else some (zb_i v, u)) (fun r => r.1 = zb_i (if d = 0 ∧ zb_dg (zb_nc t n a) = false then -1 else (zb_num t n (m + 1) a v).1) ∧ zb_LT t n (zb_num t n (m + 1) a v).2 st r.2 ∧ zb_fr [77004] s r.2) := by
      intro q
      have e : zb_num t n (m + 1) a v = (v, a) := by simp only [zb_num]; rw [if_neg (by rw [q]; decide)]
      rw [e, q]
      by_cases z : d = 0
      · subst z; rw [if_pos rfl, if_pos ⟨rfl, rfl⟩]; exact zb_Wsome ⟨rfl, h, hfr⟩
      · rw [if_neg z, if_neg (fun w => z w.1)]; exact zb_Wsome ⟨rfl, h, hfr⟩
    simp only [F_Lt_number_b4]
    rw [zb_m1]
    refine zb_Wneg (by first | omega | (simp (disch := omega) only [zb_lit, zb_n_add, zb_n_mul, zb_n_ix, zb_n_lt, zb_n_le, zb_n_eq, zb_ib_n] <;> omega)) ?_
    rw [h1, h2]
    simp (disch := omega) only [zb_lit, zb_n_add, zb_n_mul, zb_n_ix, zb_n_lt, zb_n_le, zb_n_eq, zb_ib_n]
    by_cases q : a < n
    · have e : zb_nc t n a = t a := by unfold zb_nc; rw [if_pos q]
      have e4 := h4 a q
      rw [if_neg (by omega), if_pos (by omega), e4]
      refine zb_Wif (fun w => out ?_) (fun w => ?_)
      · rw [e]; unfold zb_dg; rw [zb_c_ltn (by omega)] at w; simp; omega
      · rw [zb_c_ltn (by omega)] at w
        refine zb_Wpos (by first | omega | (simp (disch := omega) only [zb_lit, zb_n_add, zb_n_mul, zb_n_ix, zb_n_lt, zb_n_le, zb_n_eq, zb_ib_n] <;> omega)) ?_
        refine zb_Wif (fun w2 => out ?_) (fun w2 => ?_)
        · rw [e]; unfold zb_dg; rw [zb_n_ltc (by omega)] at w2; simp; omega
        · rw [zb_n_ltc (by omega)] at w2
          have dg : zb_dg (zb_nc t n a) = true := by rw [e]; unfold zb_dg; simp; omega
          refine zb_Wpos (by first | omega | (simp (disch := omega) only [zb_lit, zb_n_add, zb_n_mul, zb_n_ix, zb_n_lt, zb_n_le, zb_n_eq, zb_ib_n] <;> omega)) ?_
          refine zb_Wlet (zb_Wlet (zb_Wlet ?_))
          have ev : zb_i v * zb_n 10 + t a - zb_n 48 = zb_i (10 * v + (zb_nc t n a).toInt - 48) := by
            rw [e, zb_n_i, zb_n_i, zb_i_mul]
            conv => lhs; rw [zb_i_of (t a)]
            rw [zb_i_add, zb_i_sub]; congr 1; omega
          rw [ev]
          have ih' := ih f (d + 1) (a + 1) (10 * v + (zb_nc t n a).toInt - 48) (ss_setI u 77 4 (zb_n (a + 1))) (by omega) (by omega) (zb_LT_at h (by omega) (by omega)) (zb_fr_set hfr rfl)
          refine zb_Wmono ih' (fun r hr => ?_)
          have en : zb_num t n (m + 1) a v = zb_num t n m (a + 1) (10 * v + (zb_nc t n a).toInt - 48) := by simp only [zb_num]; rw [if_pos dg]
          rw [en, dg]
          rw [if_neg (by omega)] at hr
          rw [if_neg (by simp)]
          exact hr
    · refine zb_Wpos (by omega) (out ?_)
      cases z : zb_dg (zb_nc t n a) with
      | false => rfl
      | true => exact absurd (zb_dg_lt z) q
theorem zb_Lt_number {K : Nat} (hK : 1 ≤ K) (hK4 : K ≤ 4) (h : zb_LT t n a st s) : zb_W (F_Lt_number (zb_n K) s) (fun r => r.1 = zb_i (zb_no t n K a).1 ∧ zb_LT t n (zb_no t n K a).2 st r.2 ∧ zb_fr [77004] s r.2) := by
  unfold F_Lt_number
  refine zb_Wmono (zb_Lt_number_b4 (s := s) hK hK4 K ss_F 0 a 0 s (by omega) (by unfold ss_F; omega) h (zb_fr_refl _ _)) (fun r hr => ?_)
  unfold zb_no
  by_cases q : zb_dg (zb_nc t n a) = true
  · rw [if_pos q]; rw [if_neg (by rw [q]; simp)] at hr; exact hr
  · rw [if_neg q]
    have q' : zb_dg (zb_nc t n a) = false := by simpa using q
    rw [if_pos ⟨rfl, q'⟩] at hr
    have e : (zb_num t n K a 0).2 = a := by
      obtain ⟨k, rfl⟩ : ∃ k, K = k + 1 := ⟨K - 1, by omega⟩
      simp only [zb_num]; rw [if_neg q]
    rw [e] at hr; exact hr
theorem zb_Lt_emit (h : zb_LT t n a st s) (hlt : st.length < a) {x y : Int} : zb_W (F_Lt_emit (zb_i x) (zb_i y) s) (fun r => zb_LT t n a (st ++ [zb_i (x * 10000 + y)]) r ∧ zb_fr [77005, 80] s r) := by
  obtain ⟨⟨b1, b2, b3⟩, h1, h2, h3, h4, h5⟩ := h
  unfold F_Lt_emit
  rw [h3]
  refine zb_Wneg (by first | omega | (simp (disch := omega) only [zb_lit, zb_n_add, zb_n_mul, zb_n_ix, zb_n_lt, zb_n_le, zb_n_eq, zb_ib_n] <;> omega)) ?_
  refine zb_Wlet ?_
  refine zb_Wpos (by first | omega | (simp (disch := omega) only [zb_lit, zb_n_add, zb_n_mul, zb_n_ix, zb_n_lt, zb_n_le, zb_n_eq, zb_ib_n] <;> omega)) ?_
  refine zb_Wlet (zb_Wsome ?_)
  have ev : zb_i x * (10000 : Int32) + zb_i y = zb_i (x * 10000 + y) := by rw [show (10000 : Int32) = zb_i 10000 from zb_n_i 10000, zb_i_mul, zb_i_add]
  rw [ev]
  simp (disch := omega) only [zb_lit, zb_n_add, zb_n_mul, zb_n_ix, zb_n_lt, zb_n_le, zb_n_eq, zb_ib_n]
  refine ⟨⟨⟨b1, b2, by simp; omega⟩, ?_, ?_, ?_, fun i hi => ?_, fun i hi => ?_⟩, zb_fr_set (zb_fr_set (zb_fr_refl _ _) rfl) rfl⟩
  · rw [zb_set_ne (by omega), zb_set_ne (by omega)]; exact h1
  · rw [zb_set_ne (by omega), zb_set_ne (by omega)]; exact h2
  · rw [zb_set_ne (by omega), zb_set_eq]; simp
  · rw [zb_set_ne (by omega), zb_set_ne (by omega)]; exact h4 i hi
  · simp at hi
    by_cases q : i = st.length
    · subst q; rw [zb_set_eq]; simp [List.getD]
    · rw [zb_set_ne (by omega), zb_set_ne (by omega), h5 i (by omega)]
      simp only [List.getD_eq_getElem?_getD]
      rw [List.getElem?_append_left (by omega)]
/-- what a piece of the reader leaves -/
def zb_Lp (t : Nat → Int32) (n : Nat) (st : List Int32) (s : sv_S) (p : zb_PR) (r : Int32 × sv_S) : Prop := r.1 = zb_b p.1 ∧ zb_LT t n p.2.1 (st ++ p.2.2) r.2 ∧ zb_fr [77004, 77005, 80] s r.2
theorem zb_LT_nil (h : zb_LT t n a st s) : zb_LT t n a (st ++ []) s := by rw [List.append_nil]; exact h
/-- behind a test's sign: a number -/
theorem zb_Lt_tnu {u : sv_S} {k : Nat} (hk : k ≤ 8) (h : zb_LT t n a st u) (hlt : st.length < a) (hf : zb_fr [77004, 77005, 80] s u) : zb_W (F_Lt_test_b200 (zb_n k) u) (zb_Lp t n st s (zb_tnu t n k a)) := by
  unfold F_Lt_test_b200
  refine zb_Wpos (by first | omega | (simp (disch := omega) only [zb_lit, zb_n_add, zb_n_mul, zb_n_ix, zb_n_lt, zb_n_le, zb_n_eq, zb_ib_n] <;> omega)) ?_
  rw [zb_lit]
  refine zb_Wbind2 (zb_Lt_number (K := 4) (by omega) (by omega) h) (fun r hr => ?_)
  obtain ⟨r1, r2, r3⟩ := hr
  unfold F_Lt_test_b213
  rw [r1]
  unfold zb_no at r2 ⊢
  unfold zb_tnu
  have hb := h.1
  by_cases q : zb_dg (zb_nc t n a) = true
  · rw [if_pos q] at r2
    rw [if_pos q, if_pos q]
    have g := zb_num4 (t := t) (a := a) (n := n) (by omega)
    refine zb_Wpos (by rw [show (0 : Int32) = zb_i 0 from zb_n_i 0, zb_i_le (by omega) (by omega) (by omega) (by omega)]; omega) ?_
    rw [zb_n_i k]
    refine zb_Wbind2 (zb_Lt_emit r2 (by omega)) (fun r' hr' => ?_)
    exact zb_Wsome ⟨rfl, hr'.1, zb_fr_trans (zb_fr_trans hf (zb_fr_mono r3 (by decide))) (zb_fr_mono hr'.2 (by decide))⟩
  · rw [if_neg q] at r2
    rw [if_neg q, if_neg q]
    refine zb_Wneg (by rw [show (0 : Int32) = zb_i 0 from zb_n_i 0, zb_i_le (by omega) (by omega) (by omega) (by omega)]; omega) ?_
    exact zb_Wsome ⟨rfl, zb_LT_nil r2, zb_fr_trans hf (zb_fr_mono r3 (by decide))⟩
theorem zb_Lt_tno {u : sv_S} (h : zb_LT t n a st u) (hf : zb_fr [77004, 77005, 80] s u) : zb_W (F_Lt_test_b200 (-zb_n 1) u) (zb_Lp t n st s (false, a, [])) := by
  unfold F_Lt_test_b200 F_Lt_test_b213
  refine zb_Wneg (by decide) ?_
  refine zb_Wneg (by decide) ?_
  exact zb_Wsome ⟨rfl, zb_LT_nil h, hf⟩
theorem zb_Lt_test (h : zb_LT t n a st s) : zb_W (F_Lt_test s) (zb_Lp t n st s (zb_tst t n a)) := by
  have hb := h.1
  have fr : ∀ v, zb_fr [77004, 77005, 80] s (ss_setI s 77 4 v) := fun v => zb_fr_set (zb_fr_refl _ _) rfl
  have fr2 : ∀ v w, zb_fr [77004, 77005, 80] s (ss_setI (ss_setI s 77 4 v) 77 4 w) := fun v w => zb_fr_set (fr v) rfl
  have eqs : ∀ {c : Nat} {k : Nat}, c ≤ 127 → k ≤ 8 → zb_nc t n a = zb_n c → zb_W ((F_Lt_takes (zb_n 61) (ss_setI s 77 4 (zb_n (a + 1)))).bind fun r => if r.1 = zb_n 0 then F_Lt_test_b200 (-zb_n 1) r.2 else F_Lt_test_b200 (zb_n k) r.2) (zb_Lp t n st s (if zb_nc t n (a + 1) = zb_n 61 then zb_tnu t n k (a + 2) else (false, a + 1, []))) := by
    intro c k hc hk e
    have h1 := zb_nc_lt hc e
    have L1 := zb_LT_at (b := a + 1) h (by omega) (by omega)
    rw [zb_Lt_takes L1 (by omega)]
    refine zb_Wbind (zb_Wsome ?_)
    by_cases q : zb_nc t n (a + 1) = zb_n 61
    · rw [if_pos q, if_pos q]
      have h2 := zb_nc_lt (by omega) q
      exact zb_Wneg zb_10 (zb_Lt_tnu hk (zb_LT_at (b := a + 2) L1 (by omega) (by omega)) (by omega) (fr2 _ _))
    · rw [if_neg q, if_neg q]
      exact zb_Wpos rfl (zb_Lt_tno L1 (fr _))
  have lgs : ∀ {c : Nat} {k : Nat}, c ≤ 127 → k ≤ 7 → zb_nc t n a = zb_n c → zb_W ((F_Lt_takes (zb_n 60) (ss_setI s 77 4 (zb_n (a + 1)))).bind fun r => if r.1 = zb_n 0 then (F_Lt_takes (zb_n 62) r.2).bind fun r' => if r'.1 = zb_n 0 then F_Lt_test_b200 (-zb_n 1) r'.2 else F_Lt_test_b200 (zb_n (k + 1)) r'.2 else F_Lt_test_b200 (zb_n k) r.2) (zb_Lp t n st s (if zb_nc t n (a + 1) = zb_n 60 then zb_tnu t n k (a + 2) else if zb_nc t n (a + 1) = zb_n 62 then zb_tnu t n (k + 1 : Nat) (a + 2) else (false, a + 1, []))) := by
    intro c k hc hk e
    have h1 := zb_nc_lt hc e
    have L1 := zb_LT_at (b := a + 1) h (by omega) (by omega)
    rw [zb_Lt_takes L1 (by omega)]
    refine zb_Wbind (zb_Wsome ?_)
    by_cases q : zb_nc t n (a + 1) = zb_n 60
    · rw [if_pos q, if_pos q]
      have h2 := zb_nc_lt (by omega) q
      exact zb_Wneg zb_10 (zb_Lt_tnu (by omega) (zb_LT_at (b := a + 2) L1 (by omega) (by omega)) (by omega) (fr2 _ _))
    · rw [if_neg q, if_neg q]
      refine zb_Wpos rfl ?_
      rw [zb_Lt_takes L1 (by omega)]
      refine zb_Wbind (zb_Wsome ?_)
      by_cases q2 : zb_nc t n (a + 1) = zb_n 62
      · rw [if_pos q2, if_pos q2]
        have h2 := zb_nc_lt (by omega) q2
        exact zb_Wneg zb_10 (zb_Lt_tnu (by omega) (zb_LT_at (b := a + 2) L1 (by omega) (by omega)) (by omega) (fr2 _ _))
      · rw [if_neg q2, if_neg q2]
        exact zb_Wpos rfl (zb_Lt_tno L1 (fr _))
  have ems : ∀ {c : Nat} {k : Nat}, c ≤ 127 → zb_nc t n a = zb_n c → zb_W ((F_Lt_emit (zb_n k) (zb_n 0) (ss_setI s 77 4 (zb_n (a + 1)))).bind fun r => some (zb_n 1, r)) (zb_Lp t n st s (true, a + 1, [zb_i ((k : Int) * 10000 + 0)])) := by
    intro c k hc e
    have h1 := zb_nc_lt hc e
    have L1 := zb_LT_at (b := a + 1) h (by omega) (by omega)
    rw [zb_n_i, zb_n_i]
    refine zb_Wbind2 (zb_Lt_emit L1 (by omega)) (fun r hr => ?_)
    exact zb_Wsome ⟨rfl, hr.1, zb_fr_trans (fr _) (zb_fr_mono hr.2 (by decide))⟩
  unfold F_Lt_test zb_tst F_Lt_test_b160 F_Lt_test_b119 F_Lt_test_b79 F_Lt_test_b52 F_Lt_test_b25
  simp only [zb_lit]
  rw [zb_Lt_takes h (by omega)]
  refine zb_Wbind (zb_Wsome ?_)
  by_cases q1 : zb_nc t n a = zb_n 103
  · rw [if_pos q1, if_pos q1]; exact zb_Wneg zb_10 (eqs (k := 0) (by omega) (by omega) q1)
  rw [if_neg q1, if_neg q1]
  refine zb_Wpos rfl ?_
  rw [zb_Lt_takes h (by omega)]
  refine zb_Wbind (zb_Wsome ?_)
  by_cases q2 : zb_nc t n a = zb_n 99
  · rw [if_pos q2, if_pos q2]; exact zb_Wneg zb_10 (eqs (k := 1) (by omega) (by omega) q2)
  rw [if_neg q2, if_neg q2]
  refine zb_Wpos rfl ?_
  rw [zb_Lt_takes h (by omega)]
  refine zb_Wbind (zb_Wsome ?_)
  by_cases q3 : zb_nc t n a = zb_n 111
  · rw [if_pos q3, if_pos q3]; exact zb_Wneg zb_10 (eqs (k := 2) (by omega) (by omega) q3)
  rw [if_neg q3, if_neg q3]
  refine zb_Wpos rfl ?_
  rw [zb_Lt_takes h (by omega)]
  refine zb_Wbind (zb_Wsome ?_)
  by_cases q4 : zb_nc t n a = zb_n 116
  · rw [if_pos q4, if_pos q4]; exact zb_Wneg zb_10 (lgs (k := 3) (by omega) (by omega) q4)
  rw [if_neg q4, if_neg q4]
  refine zb_Wpos rfl ?_
  rw [zb_Lt_takes h (by omega)]
  refine zb_Wbind (zb_Wsome ?_)
  by_cases q5 : zb_nc t n a = zb_n 100
  · rw [if_pos q5, if_pos q5]; exact zb_Wneg zb_10 (lgs (k := 5) (by omega) (by omega) q5)
  rw [if_neg q5, if_neg q5]
  refine zb_Wpos rfl ?_
  rw [zb_Lt_takes h (by omega)]
  refine zb_Wbind (zb_Wsome ?_)
  by_cases q6 : zb_nc t n a = zb_n 98
  · rw [if_pos q6, if_pos q6]; exact zb_Wneg zb_10 (ems (k := 7) (by omega) q6)
  rw [if_neg q6, if_neg q6]
  refine zb_Wpos rfl ?_
  rw [zb_Lt_takes h (by omega)]
  refine zb_Wbind (zb_Wsome ?_)
  by_cases q7 : zb_nc t n a = zb_n 120
  · rw [if_pos q7, if_pos q7]; exact zb_Wneg zb_10 (ems (k := 8) (by omega) q7)
  rw [if_neg q7, if_neg q7]
  exact zb_Wpos rfl (zb_Lt_tno h (zb_fr_refl _ _))
theorem zb_Lt_both_b12 {f : Nat → zb_PR} {ff : Int32 → sv_S → Option (Int32 × sv_S)} {x : Int32} {st0 : List Int32} (hn : n ≤ 140) (hff : ∀ b st u, zb_LT t n b st u → zb_W (ff x u) (zb_Lp t n st u (f b))) (hgp : ∀ b, b ≤ n → zb_gp n b (f b)) :
    ∀ (m k d b : Nat) (st : List Int32) (u : sv_S), d + m = 140 → m < k → zb_LT t n b (st0 ++ st) u → zb_fr [77004, 77005, 80] s u → zb_W (F_Lt_both_b12o ff k x (zb_n d) u) (zb_Lp t n st0 s (zb_moL t n 38 100000 f m b st)) := by
  intro m
  induction m with
  | zero =>
    intro k d b st u hd hk h hf
    obtain ⟨k, rfl⟩ : ∃ g, k = g + 1 := ⟨k - 1, by omega⟩
    simp only [F_Lt_both_b12o, zb_moL]
    refine zb_Wpos (by first | omega | (simp (disch := omega) only [zb_lit, zb_n_add, zb_n_mul, zb_n_ix, zb_n_lt, zb_n_le, zb_n_eq, zb_ib_n] <;> omega)) ?_
    exact zb_Wsome ⟨rfl, h, hf⟩
  | succ m ih =>
    intro k d b st u hd hk h hf
    obtain ⟨k, rfl⟩ : ∃ g, k = g + 1 := ⟨k - 1, by omega⟩
    have hb := h.1
    rw [List.length_append] at hb
    simp only [F_Lt_both_b12o, zb_moL]
    refine zb_Wneg (by first | omega | (simp (disch := omega) only [zb_lit, zb_n_add, zb_n_mul, zb_n_ix, zb_n_lt, zb_n_le, zb_n_eq, zb_ib_n] <;> omega)) ?_
    simp only [zb_lit]
    rw [zb_Lt_takes h (by omega)]
    refine zb_Wbind (zb_Wsome ?_)
    by_cases q : zb_nc t n b = zb_n 38
    · rw [if_pos q, if_pos q]
      have hlt := zb_nc_lt (by omega) q
      have g := hgp (b + 1) (by omega)
      unfold zb_gp at g
      refine zb_Wneg zb_10 ?_
      refine zb_Wbind2 (hff (b + 1) (st0 ++ st) _ (zb_LT_at (b := b + 1) h (by omega) (by rw [List.length_append]; omega))) (fun r hr => ?_)
      obtain ⟨r1, r2, r3⟩ := hr
      have f2 := zb_fr_trans (zb_fr_set (L := [77004, 77005, 80]) hf rfl) r3
      rw [r1]
      simp only [zb_b0]
      by_cases w : (f (b + 1)).1 = true
      · rw [if_pos w, if_neg (by rw [w]; decide)]
        refine zb_Wbind2 (zb_Lt_emit (x := 10) (y := 0) r2 (by rw [List.length_append, List.length_append]; omega)) (fun r' hr' => ?_)
        refine zb_Wlet ?_
        simp (disch := omega) only [zb_lit, zb_n_add, zb_n_mul, zb_n_ix, zb_n_lt, zb_n_le, zb_n_eq, zb_ib_n]
        refine ih k (d + 1) _ _ r' (by omega) (by omega) ?_ (zb_fr_trans f2 (zb_fr_mono hr'.2 (by decide)))
        have := hr'.1
        rw [List.append_assoc, List.append_assoc] at this
        rw [List.append_assoc]
        exact this
      · have w' : (f (b + 1)).1 = false := by simpa using w
        rw [if_neg w, if_pos w']
        exact zb_Wsome ⟨rfl, by rw [← List.append_assoc]; exact r2, f2⟩
    · rw [if_neg q, if_neg q]
      exact zb_Wpos rfl (zb_Wsome ⟨rfl, h, hf⟩)
theorem zb_Lt_both {f : Nat → zb_PR} {ff : Int32 → sv_S → Option (Int32 × sv_S)} {x : Int32} (hn : n ≤ 140) (hff : ∀ b st u, zb_LT t n b st u → zb_W (ff x u) (zb_Lp t n st u (f b))) (hgp : ∀ b, b ≤ n → zb_gp n b (f b)) (h : zb_LT t n a st s) : zb_W (F_Lt_both_o ff x s) (zb_Lp t n st s (zb_mo t n 38 100000 f a)) := by
  unfold F_Lt_both_o zb_mo
  simp only [zb_lit]
  refine zb_Wbind2 (hff a st s h) (fun r hr => ?_)
  obtain ⟨r1, r2, r3⟩ := hr
  rw [r1]
  simp only [zb_b0]
  by_cases w : (f a).1 = true
  · rw [if_pos w, if_neg (by rw [w]; decide)]
    exact zb_Lt_both_b12 (s := s) hn hff hgp 140 ss_F 0 _ _ r.2 (by omega) (by unfold ss_F; omega) r2 r3
  · have w' : (f a).1 = false := by simpa using w
    rw [if_neg w, if_pos w']
    refine zb_Wsome ⟨?_, r2, r3⟩
    rw [w']; rfl
theorem zb_Lt_either_b12 {f : Nat → zb_PR} {ff : Int32 → sv_S → Option (Int32 × sv_S)} {x : Int32} {st0 : List Int32} (hn : n ≤ 140) (hff : ∀ b st u, zb_LT t n b st u → zb_W (ff x u) (zb_Lp t n st u (f b))) (hgp : ∀ b, b ≤ n → zb_gp n b (f b)) :
    ∀ (m k d b : Nat) (st : List Int32) (u : sv_S), d + m = 140 → m < k → zb_LT t n b (st0 ++ st) u → zb_fr [77004, 77005, 80] s u → zb_W (F_Lt_either_b12o ff k x (zb_n d) u) (zb_Lp t n st0 s (zb_moL t n 124 110000 f m b st)) := by
  intro m
  induction m with
  | zero =>
    intro k d b st u hd hk h hf
    obtain ⟨k, rfl⟩ : ∃ g, k = g + 1 := ⟨k - 1, by omega⟩
    simp only [F_Lt_either_b12o, zb_moL]
    refine zb_Wpos (by first | omega | (simp (disch := omega) only [zb_lit, zb_n_add, zb_n_mul, zb_n_ix, zb_n_lt, zb_n_le, zb_n_eq, zb_ib_n] <;> omega)) ?_
    exact zb_Wsome ⟨rfl, h, hf⟩
  | succ m ih =>
    intro k d b st u hd hk h hf
    obtain ⟨k, rfl⟩ : ∃ g, k = g + 1 := ⟨k - 1, by omega⟩
    have hb := h.1
    rw [List.length_append] at hb
    simp only [F_Lt_either_b12o, zb_moL]
    refine zb_Wneg (by first | omega | (simp (disch := omega) only [zb_lit, zb_n_add, zb_n_mul, zb_n_ix, zb_n_lt, zb_n_le, zb_n_eq, zb_ib_n] <;> omega)) ?_
    simp only [zb_lit]
    rw [zb_Lt_takes h (by omega)]
    refine zb_Wbind (zb_Wsome ?_)
    by_cases q : zb_nc t n b = zb_n 124
    · rw [if_pos q, if_pos q]
      have hlt := zb_nc_lt (by omega) q
      have g := hgp (b + 1) (by omega)
      unfold zb_gp at g
      refine zb_Wneg zb_10 ?_
      refine zb_Wbind2 (hff (b + 1) (st0 ++ st) _ (zb_LT_at (b := b + 1) h (by omega) (by rw [List.length_append]; omega))) (fun r hr => ?_)
      obtain ⟨r1, r2, r3⟩ := hr
      have f2 := zb_fr_trans (zb_fr_set (L := [77004, 77005, 80]) hf rfl) r3
      rw [r1]
      simp only [zb_b0]
      by_cases w : (f (b + 1)).1 = true
      · rw [if_pos w, if_neg (by rw [w]; decide)]
        refine zb_Wbind2 (zb_Lt_emit (x := 11) (y := 0) r2 (by rw [List.length_append, List.length_append]; omega)) (fun r' hr' => ?_)
        refine zb_Wlet ?_
        simp (disch := omega) only [zb_lit, zb_n_add, zb_n_mul, zb_n_ix, zb_n_lt, zb_n_le, zb_n_eq, zb_ib_n]
        refine ih k (d + 1) _ _ r' (by omega) (by omega) ?_ (zb_fr_trans f2 (zb_fr_mono hr'.2 (by decide)))
        have := hr'.1
        rw [List.append_assoc, List.append_assoc] at this
        rw [List.append_assoc]
        exact this
      · have w' : (f (b + 1)).1 = false := by simpa using w
        rw [if_neg w, if_pos w']
        exact zb_Wsome ⟨rfl, by rw [← List.append_assoc]; exact r2, f2⟩
    · rw [if_neg q, if_neg q]
      exact zb_Wpos rfl (zb_Wsome ⟨rfl, h, hf⟩)
theorem zb_Lt_either {f : Nat → zb_PR} {ff : Int32 → sv_S → Option (Int32 × sv_S)} {x : Int32} (hn : n ≤ 140) (hff : ∀ b st u, zb_LT t n b st u → zb_W (ff x u) (zb_Lp t n st u (f b))) (hgp : ∀ b, b ≤ n → zb_gp n b (f b)) (h : zb_LT t n a st s) : zb_W (F_Lt_either_o ff x s) (zb_Lp t n st s (zb_mo t n 124 110000 f a)) := by
  unfold F_Lt_either_o zb_mo
  simp only [zb_lit]
  refine zb_Wbind2 (hff a st s h) (fun r hr => ?_)
  obtain ⟨r1, r2, r3⟩ := hr
  rw [r1]
  simp only [zb_b0]
  by_cases w : (f a).1 = true
  · rw [if_pos w, if_neg (by rw [w]; decide)]
    exact zb_Lt_either_b12 (s := s) hn hff hgp 140 ss_F 0 _ _ r.2 (by omega) (by unfold ss_F; omega) r2 r3
  · have w' : (f a).1 = false := by simpa using w
    rw [if_neg w, if_pos w']
    refine zb_Wsome ⟨?_, r2, r3⟩
    rw [w']; rfl
theorem zb_Lt_factor (hn : n ≤ 140) : ∀ (k m w : Nat), w + k = 5 → k < m → ∀ a st u, zb_LT t n a st u → zb_W (F_Lt_factorN m (zb_n w) u) (zb_Lp t n st u (zb_fac t n k a)) := by
  intro k
  induction k with
  | zero =>
    intro m w hw hm a st u h
    obtain ⟨m, rfl⟩ : ∃ g, m = g + 1 := ⟨m - 1, by omega⟩
    simp only [F_Lt_factorN, F_Lt_factor_o, F_Lt_factor_b31o, zb_fac]
    refine zb_Wpos (by first | omega | (simp (disch := omega) only [zb_lit, zb_n_add, zb_n_mul, zb_n_ix, zb_n_lt, zb_n_le, zb_n_eq, zb_ib_n] <;> omega)) ?_
    refine zb_Wpos (by first | omega | (simp (disch := omega) only [zb_lit, zb_n_add, zb_n_mul, zb_n_ix, zb_n_lt, zb_n_le, zb_n_eq, zb_ib_n] <;> omega)) ?_
    refine zb_Wbind2 (zb_Lt_test h) (fun r hr => ?_)
    rw [hr.1, if_pos zb_bl_b]
    exact zb_Wsome ⟨rfl, hr.2⟩
  | succ k ih =>
    intro m w hw hm a st u h
    obtain ⟨m, rfl⟩ : ∃ g, m = g + 1 := ⟨m - 1, by omega⟩
    have hb := h.1
    have IH := ih m (w + 1) (by omega) (by omega)
    simp only [F_Lt_factorN, F_Lt_factor_o, F_Lt_factor_b31o, zb_fac]
    refine zb_Wneg (by first | omega | (simp (disch := omega) only [zb_lit, zb_n_add, zb_n_mul, zb_n_ix, zb_n_lt, zb_n_le, zb_n_eq, zb_ib_n] <;> omega)) ?_
    simp only [zb_lit]
    rw [zb_Lt_takes h (by omega)]
    refine zb_Wbind (zb_Wsome ?_)
    by_cases q : zb_nc t n a = zb_n 33
    · rw [if_pos q, if_pos q]
      have hlt := zb_nc_lt (by omega) q
      have g := zb_fac_gp (t := t) hn k (a + 1) (by omega)
      unfold zb_gp at g
      refine zb_Wneg zb_10 ?_
      rw [zb_n_add]
      refine zb_Wbind2 (IH (a + 1) st _ (zb_LT_at (b := a + 1) h (by omega) (by omega))) (fun r hr => ?_)
      obtain ⟨r1, r2, r3⟩ := hr
      have f2 := zb_fr_trans (zb_fr_set (L := [77004, 77005, 80]) (zb_fr_refl _ u) rfl) r3
      rw [zb_n_i 9, zb_n_i 0]
      refine zb_Wbind2 (zb_Lt_emit (x := (9 : Nat)) (y := (0 : Nat)) r2 (by rw [List.length_append]; omega)) (fun r' hr' => ?_)
      rw [r1, if_pos zb_bl_b]
      refine zb_Wsome ⟨rfl, ?_, zb_fr_trans f2 (zb_fr_mono hr'.2 (by decide))⟩
      rw [← List.append_assoc]; exact hr'.1
    · rw [if_neg q, if_neg q]
      refine zb_Wpos rfl ?_
      refine zb_Wneg (by first | omega | (simp (disch := omega) only [zb_lit, zb_n_add, zb_n_mul, zb_n_ix, zb_n_lt, zb_n_le, zb_n_eq, zb_ib_n] <;> omega)) ?_
      rw [zb_Lt_takes h (by omega)]
      refine zb_Wbind (zb_Wsome ?_)
      by_cases q2 : zb_nc t n a = zb_n 40
      · rw [if_pos q2, if_pos q2]
        have hlt := zb_nc_lt (by omega) q2
        have g1 : ∀ b, b ≤ n → zb_gp n b (zb_mo t n 38 100000 (zb_fac t n k) b) := fun b hb => (zb_mo_gp (by omega) (zb_fac_gp hn k) hb hn).1
        have g := (zb_mo_gp (t := t) (sign := 124) (step := 110000) (a := a + 1) (by omega) g1 (by omega) hn).1
        refine zb_Wneg zb_10 ?_
        rw [zb_n_add]
        have fb : ∀ b st u, zb_LT t n b st u → zb_W (F_Lt_both_o (F_Lt_factorN m) (zb_n (w + 1)) u) (zb_Lp t n st u (zb_mo t n 38 100000 (zb_fac t n k) b)) := fun b st u hu => zb_Lt_both hn IH (zb_fac_gp hn k) hu
        refine zb_Wbind2 (zb_Lt_either hn fb g1 (zb_LT_at (b := a + 1) h (by omega) (by omega))) (fun r hr => ?_)
        generalize zb_mo t n 124 110000 (zb_mo t n 38 100000 (zb_fac t n k)) (a + 1) = p at hr g ⊢
        obtain ⟨r1, r2, r3⟩ := hr
        unfold zb_gp at g
        have f2 := zb_fr_trans (zb_fr_set (L := [77004, 77005, 80]) (zb_fr_refl _ u) rfl) r3
        rw [r1]
        simp only [zb_b0]
        by_cases v : p.1 = true
        · rw [if_pos v, if_neg (by rw [v]; decide), zb_Lt_takes r2 (by omega)]
          refine zb_Wbind (zb_Wsome ?_)
          by_cases q3 : zb_nc t n p.2.1 = zb_n 41
          · rw [if_pos q3, if_pos q3]
            have hlt2 := zb_nc_lt (by omega) q3
            exact zb_Wneg zb_10 (zb_Wsome ⟨rfl, zb_LT_at (b := p.2.1 + 1) (st := st ++ p.2.2) r2 (by omega) (by rw [List.length_append]; omega), zb_fr_set f2 rfl⟩)
          · rw [if_neg q3, if_neg q3]
            exact zb_Wpos rfl (zb_Wsome ⟨rfl, r2, f2⟩)
        · have v' : p.1 = false := by simpa using v
          rw [if_neg v, if_pos v']
          exact zb_Wsome ⟨by rw [v']; rfl, r2, f2⟩
      · rw [if_neg q2, if_neg q2]
        refine zb_Wpos rfl ?_
        refine zb_Wbind2 (zb_Lt_test h) (fun r hr => ?_)
        rw [hr.1, if_pos zb_bl_b]
        exact zb_Wsome ⟨rfl, hr.2⟩
theorem zb_Lt_exp (h : zb_LT t n a st s) : zb_W (F_Lt_either (zb_n 0) s) (zb_Lp t n st s (zb_exp t n a)) := by
  have hn := h.1.1
  unfold F_Lt_either zb_exp
  refine zb_Lt_either hn (fun b st u hu => ?_) (fun b hb => (zb_mo_gp (by omega) (zb_fac_gp hn 5) hb hn).1) h
  unfold F_Lt_both
  refine zb_Lt_both hn (fun b st u hu => ?_) (zb_fac_gp hn 5) hu
  unfold F_Lt_factor
  exact zb_Lt_factor hn 5 10 0 (by omega) (by omega) b st u hu
end LT
