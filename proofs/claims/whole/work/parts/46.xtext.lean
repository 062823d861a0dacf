/-! the class's reader of expressions -/
def sb_LT (t : Nat → Int32) (n a : Nat) (st : List Int32) (s : sv_S) : Prop :=
  (n ≤ 140 ∧ a ≤ n ∧ st.length ≤ a) ∧ s.1 77 3 = sb_n n ∧ s.1 77 4 = sb_n a ∧ s.1 77 5 = sb_n st.length ∧ (∀ i, i < n → s.1 78 i = t i) ∧ (∀ i, i < st.length → s.1 80 i = st.getD i 0)
section LT
variable {t : Nat → Int32} {n a : Nat} {st : List Int32} {s : sv_S}
theorem sb_LT_at {b : Nat} (h : sb_LT t n a st s) (hb : b ≤ n) (hst : st.length ≤ b) : sb_LT t n b st (ss_setI s 77 4 (sb_n b)) :=
  ⟨⟨h.1.1, hb, hst⟩, (sb_set_ne (by omega)).trans h.2.1, sb_set_eq, (sb_set_ne (by omega)).trans h.2.2.2.1, fun i hi => (sb_set_ne (by omega)).trans (h.2.2.2.2.1 i hi), fun i hi => (sb_set_ne (by omega)).trans (h.2.2.2.2.2 i hi)⟩
theorem sb_Lt_takes (h : sb_LT t n a st s) {c : Nat} (hc : c ≤ 127) : F_Lt_takes (sb_n c) s = some (if sb_nc t n a = sb_n c then (sb_n 1, ss_setI s 77 4 (sb_n (a + 1))) else (sb_n 0, s)) := by
  obtain ⟨⟨b1, b2, b3⟩, h1, h2, h3, h4, h5⟩ := h
  unfold F_Lt_takes
  simp (disch := omega) only [sb_lit, sb_n_add, sb_n_mul, sb_n_ix, sb_n_lt, sb_n_le, sb_n_eq, sb_ib_n, h1, h2, ss_let]
  by_cases q : a < n
  · rw [if_neg (by omega), if_pos (by omega), h4 a q]
    have e : sb_nc t n a = t a := by unfold sb_nc; rw [if_pos q]
    rw [e]
    by_cases u : t a = sb_n c
    · rw [if_pos u, if_pos u]
    · rw [if_neg u, if_neg u]
  · rw [if_pos (by omega), if_neg]
    intro w; exact q (sb_nc_lt hc w)
theorem sb_Lt_number_b4 {K : Nat} (hK : 1 ≤ K) (hK4 : K ≤ 4) : ∀ (m f d a : Nat) (v : Int) (u : sv_S), d + m = K → m < f → sb_LT t n a st u → sb_fr [77004] s u → sb_W (F_Lt_number_b4 f (sb_n K) (sb_i v) (sb_n d) u) (fun r => r.1 = sb_i (if d = 0 ∧ sb_dg (sb_nc t n a) = false then -1 else (sb_num t n m a v).1) ∧ sb_LT t n (sb_num t n m a v).2 st r.2 ∧ sb_fr [77004] s r.2) := by
  intro m
  induction m with
  | zero =>
    intro f d a v u hd hf h hfr
    obtain ⟨f, rfl⟩ : ∃ g, f = g + 1 := ⟨f - 1, by omega⟩
    simp only [F_Lt_number_b4]
    rw [sb_m1]
    refine sb_Wpos (by first | omega | (simp (disch := omega) only [sb_lit, sb_n_add, sb_n_mul, sb_n_ix, sb_n_lt, sb_n_le, sb_n_eq, sb_ib_n] <;> omega)) ?_
    refine sb_Wneg (by first | omega | (simp (disch := omega) only [sb_lit, sb_n_add, sb_n_mul, sb_n_ix, sb_n_lt, sb_n_le, sb_n_eq, sb_ib_n] <;> omega)) ?_
    refine sb_Wsome ⟨?_, h, hfr⟩
    rw [if_neg (by omega)]; rfl
  | succ m ih =>
    intro f d a v u hd hf h hfr
    obtain ⟨f, rfl⟩ : ∃ g, f = g + 1 := ⟨f - 1, by omega⟩
    have hb := h.1
    have h1 := h.2.1
    have h2 := h.2.2.1
    have h4 := h.2.2.2.2.1
    have out : sb_dg (sb_nc t n a) = false → sb_W (if d = 0 then some (sb_i (-1), u) else some (sb_i v, u)) (fun r => r.1 = sb_i (if d = 0 ∧ sb_dg (sb_nc t n a) = false then -1 else (sb_num t n (m + 1) a v).1) ∧ sb_LT t n (sb_num t n (m + 1) a v).2 st r.2 ∧ sb_fr [77004] s r.2) := by
      intro q
      have e : sb_num t n (m + 1) a v = (v, a) := by simp only [sb_num]; rw [if_neg (by rw [q]; decide)]
      rw [e, q]
      by_cases z : d = 0
      · subst z; rw [if_pos rfl, if_pos ⟨rfl, rfl⟩]; exact sb_Wsome ⟨rfl, h, hfr⟩
      · rw [if_neg z, if_neg (fun w => z w.1)]; exact sb_Wsome ⟨rfl, h, hfr⟩
    simp only [F_Lt_number_b4]
    rw [sb_m1]
    refine sb_Wneg (by first | omega | (simp (disch := omega) only [sb_lit, sb_n_add, sb_n_mul, sb_n_ix, sb_n_lt, sb_n_le, sb_n_eq, sb_ib_n] <;> omega)) ?_
    rw [h1, h2]
    simp (disch := omega) only [sb_lit, sb_n_add, sb_n_mul, sb_n_ix, sb_n_lt, sb_n_le, sb_n_eq, sb_ib_n]
    by_cases q : a < n
    · have e : sb_nc t n a = t a := by unfold sb_nc; rw [if_pos q]
      have e4 := h4 a q
      rw [if_neg (by omega), if_pos (by omega), e4]
      refine sb_Wif (fun w => out ?_) (fun w => ?_)
      · rw [e]; unfold sb_dg; rw [sb_c_ltn (by omega)] at w; simp; omega
      · rw [sb_c_ltn (by omega)] at w
        refine sb_Wpos (by first | omega | (simp (disch := omega) only [sb_lit, sb_n_add, sb_n_mul, sb_n_ix, sb_n_lt, sb_n_le, sb_n_eq, sb_ib_n] <;> omega)) ?_
        refine sb_Wif (fun w2 => out ?_) (fun w2 => ?_)
        · rw [e]; unfold sb_dg; rw [sb_n_ltc (by omega)] at w2; simp; omega
        · rw [sb_n_ltc (by omega)] at w2
          have dg : sb_dg (sb_nc t n a) = true := by rw [e]; unfold sb_dg; simp; omega
          refine sb_Wpos (by first | omega | (simp (disch := omega) only [sb_lit, sb_n_add, sb_n_mul, sb_n_ix, sb_n_lt, sb_n_le, sb_n_eq, sb_ib_n] <;> omega)) ?_
          refine sb_Wlet (sb_Wlet (sb_Wlet ?_))
          have ev : sb_i v * sb_n 10 + t a - sb_n 48 = sb_i (10 * v + (sb_nc t n a).toInt - 48) := by
            rw [e, sb_n_i, sb_n_i, sb_i_mul]
            conv => lhs; rw [sb_i_of (t a)]
            rw [sb_i_add, sb_i_sub]; congr 1; omega
          rw [ev]
          have ih' := ih f (d + 1) (a + 1) (10 * v + (sb_nc t n a).toInt - 48) (ss_setI u 77 4 (sb_n (a + 1))) (by omega) (by omega) (sb_LT_at h (by omega) (by omega)) (sb_fr_set hfr rfl)
          refine sb_Wmono ih' (fun r hr => ?_)
          have en : sb_num t n (m + 1) a v = sb_num t n m (a + 1) (10 * v + (sb_nc t n a).toInt - 48) := by simp only [sb_num]; rw [if_pos dg]
          rw [en, dg]
          rw [if_neg (by omega)] at hr
          rw [if_neg (by simp)]
          exact hr
    · refine sb_Wpos (by omega) (out ?_)
      cases z : sb_dg (sb_nc t n a) with
      | false => rfl
      | true => exact absurd (sb_dg_lt z) q
theorem sb_Lt_number {K : Nat} (hK : 1 ≤ K) (hK4 : K ≤ 4) (h : sb_LT t n a st s) : sb_W (F_Lt_number (sb_n K) s) (fun r => r.1 = sb_i (sb_no t n K a).1 ∧ sb_LT t n (sb_no t n K a).2 st r.2 ∧ sb_fr [77004] s r.2) := by
  unfold F_Lt_number
  refine sb_Wmono (sb_Lt_number_b4 (s := s) hK hK4 K ss_F 0 a 0 s (by omega) (by unfold ss_F; omega) h (sb_fr_refl _ _)) (fun r hr => ?_)
  unfold sb_no
  by_cases q : sb_dg (sb_nc t n a) = true
  · rw [if_pos q]; rw [if_neg (by rw [q]; simp)] at hr; exact hr
  · rw [if_neg q]
    have q' : sb_dg (sb_nc t n a) = false := by simpa using q
    rw [if_pos ⟨rfl, q'⟩] at hr
    have e : (sb_num t n K a 0).2 = a := by
      obtain ⟨k, rfl⟩ : ∃ k, K = k + 1 := ⟨K - 1, by omega⟩
      simp only [sb_num]; rw [if_neg q]
    rw [e] at hr; exact hr
theorem sb_Lt_emit (h : sb_LT t n a st s) (hlt : st.length < a) {x y : Int} : sb_W (F_Lt_emit (sb_i x) (sb_i y) s) (fun r => sb_LT t n a (st ++ [sb_i (x * 10000 + y)]) r ∧ sb_fr [77005, 80] s r) := by
  obtain ⟨⟨b1, b2, b3⟩, h1, h2, h3, h4, h5⟩ := h
  unfold F_Lt_emit
  rw [h3]
  refine sb_Wneg (by first | omega | (simp (disch := omega) only [sb_lit, sb_n_add, sb_n_mul, sb_n_ix, sb_n_lt, sb_n_le, sb_n_eq, sb_ib_n] <;> omega)) ?_
  refine sb_Wlet ?_
  refine sb_Wpos (by first | omega | (simp (disch := omega) only [sb_lit, sb_n_add, sb_n_mul, sb_n_ix, sb_n_lt, sb_n_le, sb_n_eq, sb_ib_n] <;> omega)) ?_
  refine sb_Wlet (sb_Wsome ?_)
  have ev : sb_i x * (10000 : Int32) + sb_i y = sb_i (x * 10000 + y) := by rw [show (10000 : Int32) = sb_i 10000 from sb_n_i 10000, sb_i_mul, sb_i_add]
  rw [ev]
  simp (disch := omega) only [sb_lit, sb_n_add, sb_n_mul, sb_n_ix, sb_n_lt, sb_n_le, sb_n_eq, sb_ib_n]
  refine ⟨⟨⟨b1, b2, by simp; omega⟩, ?_, ?_, ?_, fun i hi => ?_, fun i hi => ?_⟩, sb_fr_set (sb_fr_set (sb_fr_refl _ _) rfl) rfl⟩
  · rw [sb_set_ne (by omega), sb_set_ne (by omega)]; exact h1
  · rw [sb_set_ne (by omega), sb_set_ne (by omega)]; exact h2
  · rw [sb_set_ne (by omega), sb_set_eq]; simp
  · rw [sb_set_ne (by omega), sb_set_ne (by omega)]; exact h4 i hi
  · simp at hi
    by_cases q : i = st.length
    · subst q; rw [sb_set_eq]; simp [List.getD]
    · rw [sb_set_ne (by omega), sb_set_ne (by omega), h5 i (by omega)]
      simp only [List.getD_eq_getElem?_getD]
      rw [List.getElem?_append_left (by omega)]
/-- what a piece of the reader leaves -/
def sb_Lp (t : Nat → Int32) (n : Nat) (st : List Int32) (s : sv_S) (p : sb_PR) (r : Int32 × sv_S) : Prop := r.1 = sb_b p.1 ∧ sb_LT t n p.2.1 (st ++ p.2.2) r.2 ∧ sb_fr [77004, 77005, 80] s r.2
theorem sb_LT_nil (h : sb_LT t n a st s) : sb_LT t n a (st ++ []) s := by rw [List.append_nil]; exact h
/-- behind a test's sign: a number -/
theorem sb_Lt_tnu {u : sv_S} {k : Nat} (hk : k ≤ 8) (h : sb_LT t n a st u) (hlt : st.length < a) (hf : sb_fr [77004, 77005, 80] s u) : sb_W (F_Lt_test_b200 (sb_n k) u) (sb_Lp t n st s (sb_tnu t n k a)) := by
  unfold F_Lt_test_b200
  refine sb_Wpos (by first | omega | (simp (disch := omega) only [sb_lit, sb_n_add, sb_n_mul, sb_n_ix, sb_n_lt, sb_n_le, sb_n_eq, sb_ib_n] <;> omega)) ?_
  rw [sb_lit]
  refine sb_Wbind2 (sb_Lt_number (K := 4) (by omega) (by omega) h) (fun r hr => ?_)
  obtain ⟨r1, r2, r3⟩ := hr
  unfold F_Lt_test_b213
  rw [r1]
  unfold sb_no at r2 ⊢
  unfold sb_tnu
  have hb := h.1
  by_cases q : sb_dg (sb_nc t n a) = true
  · rw [if_pos q] at r2
    rw [if_pos q, if_pos q]
    have g := sb_num4 (t := t) (a := a) (n := n) (by omega)
    refine sb_Wpos (by rw [show (0 : Int32) = sb_i 0 from sb_n_i 0, sb_i_le (by omega) (by omega) (by omega) (by omega)]; omega) ?_
    rw [sb_n_i k]
    refine sb_Wbind2 (sb_Lt_emit r2 (by omega)) (fun r' hr' => ?_)
    exact sb_Wsome ⟨rfl, hr'.1, sb_fr_trans (sb_fr_trans hf (sb_fr_mono r3 (by decide))) (sb_fr_mono hr'.2 (by decide))⟩
  · rw [if_neg q] at r2
    rw [if_neg q, if_neg q]
    refine sb_Wneg (by rw [show (0 : Int32) = sb_i 0 from sb_n_i 0, sb_i_le (by omega) (by omega) (by omega) (by omega)]; omega) ?_
    exact sb_Wsome ⟨rfl, sb_LT_nil r2, sb_fr_trans hf (sb_fr_mono r3 (by decide))⟩
theorem sb_Lt_tno {u : sv_S} (h : sb_LT t n a st u) (hf : sb_fr [77004, 77005, 80] s u) : sb_W (F_Lt_test_b200 (-sb_n 1) u) (sb_Lp t n st s (false, a, [])) := by
  unfold F_Lt_test_b200 F_Lt_test_b213
  refine sb_Wneg (by decide) ?_
  refine sb_Wneg (by decide) ?_
  exact sb_Wsome ⟨rfl, sb_LT_nil h, hf⟩
theorem sb_Lt_test (h : sb_LT t n a st s) : sb_W (F_Lt_test s) (sb_Lp t n st s (sb_tst t n a)) := by
  have hb := h.1
  have fr : ∀ v, sb_fr [77004, 77005, 80] s (ss_setI s 77 4 v) := fun v => sb_fr_set (sb_fr_refl _ _) rfl
  have fr2 : ∀ v w, sb_fr [77004, 77005, 80] s (ss_setI (ss_setI s 77 4 v) 77 4 w) := fun v w => sb_fr_set (fr v) rfl
  have eqs : ∀ {c : Nat} {k : Nat}, c ≤ 127 → k ≤ 8 → sb_nc t n a = sb_n c → sb_W ((F_Lt_takes (sb_n 61) (ss_setI s 77 4 (sb_n (a + 1)))).bind fun r => if r.1 = sb_n 0 then F_Lt_test_b200 (-sb_n 1) r.2 else F_Lt_test_b200 (sb_n k) r.2) (sb_Lp t n st s (if sb_nc t n (a + 1) = sb_n 61 then sb_tnu t n k (a + 2) else (false, a + 1, []))) := by
    intro c k hc hk e
    have h1 := sb_nc_lt hc e
    have L1 := sb_LT_at (b := a + 1) h (by omega) (by omega)
    rw [sb_Lt_takes L1 (by omega)]
    refine sb_Wbind (sb_Wsome ?_)
    by_cases q : sb_nc t n (a + 1) = sb_n 61
    · rw [if_pos q, if_pos q]
      have h2 := sb_nc_lt (by omega) q
      exact sb_Wneg sb_10 (sb_Lt_tnu hk (sb_LT_at (b := a + 2) L1 (by omega) (by omega)) (by omega) (fr2 _ _))
    · rw [if_neg q, if_neg q]
      exact sb_Wpos rfl (sb_Lt_tno L1 (fr _))
  have lgs : ∀ {c : Nat} {k : Nat}, c ≤ 127 → k ≤ 7 → sb_nc t n a = sb_n c → sb_W ((F_Lt_takes (sb_n 60) (ss_setI s 77 4 (sb_n (a + 1)))).bind fun r => if r.1 = sb_n 0 then (F_Lt_takes (sb_n 62) r.2).bind fun r' => if r'.1 = sb_n 0 then F_Lt_test_b200 (-sb_n 1) r'.2 else F_Lt_test_b200 (sb_n (k + 1)) r'.2 else F_Lt_test_b200 (sb_n k) r.2) (sb_Lp t n st s (if sb_nc t n (a + 1) = sb_n 60 then sb_tnu t n k (a + 2) else if sb_nc t n (a + 1) = sb_n 62 then sb_tnu t n (k + 1 : Nat) (a + 2) else (false, a + 1, []))) := by
    intro c k hc hk e
    have h1 := sb_nc_lt hc e
    have L1 := sb_LT_at (b := a + 1) h (by omega) (by omega)
    rw [sb_Lt_takes L1 (by omega)]
    refine sb_Wbind (sb_Wsome ?_)
    by_cases q : sb_nc t n (a + 1) = sb_n 60
    · rw [if_pos q, if_pos q]
      have h2 := sb_nc_lt (by omega) q
      exact sb_Wneg sb_10 (sb_Lt_tnu (by omega) (sb_LT_at (b := a + 2) L1 (by omega) (by omega)) (by omega) (fr2 _ _))
    · rw [if_neg q, if_neg q]
      refine sb_Wpos rfl ?_
      rw [sb_Lt_takes L1 (by omega)]
      refine sb_Wbind (sb_Wsome ?_)
      by_cases q2 : sb_nc t n (a + 1) = sb_n 62
      · rw [if_pos q2, if_pos q2]
        have h2 := sb_nc_lt (by omega) q2
        exact sb_Wneg sb_10 (sb_Lt_tnu (by omega) (sb_LT_at (b := a + 2) L1 (by omega) (by omega)) (by omega) (fr2 _ _))
      · rw [if_neg q2, if_neg q2]
        exact sb_Wpos rfl (sb_Lt_tno L1 (fr _))
  have ems : ∀ {c : Nat} {k : Nat}, c ≤ 127 → sb_nc t n a = sb_n c → sb_W ((F_Lt_emit (sb_n k) (sb_n 0) (ss_setI s 77 4 (sb_n (a + 1)))).bind fun r => some (sb_n 1, r)) (sb_Lp t n st s (true, a + 1, [sb_i ((k : Int) * 10000 + 0)])) := by
    intro c k hc e
    have h1 := sb_nc_lt hc e
    have L1 := sb_LT_at (b := a + 1) h (by omega) (by omega)
    rw [sb_n_i, sb_n_i]
    refine sb_Wbind2 (sb_Lt_emit L1 (by omega)) (fun r hr => ?_)
    exact sb_Wsome ⟨rfl, hr.1, sb_fr_trans (fr _) (sb_fr_mono hr.2 (by decide))⟩
  unfold F_Lt_test sb_tst F_Lt_test_b160 F_Lt_test_b119 F_Lt_test_b79 F_Lt_test_b52 F_Lt_test_b25
  simp only [sb_lit]
  rw [sb_Lt_takes h (by omega)]
  refine sb_Wbind (sb_Wsome ?_)
  by_cases q1 : sb_nc t n a = sb_n 103
  · rw [if_pos q1, if_pos q1]; exact sb_Wneg sb_10 (eqs (k := 0) (by omega) (by omega) q1)
  rw [if_neg q1, if_neg q1]
  refine sb_Wpos rfl ?_
  rw [sb_Lt_takes h (by omega)]
  refine sb_Wbind (sb_Wsome ?_)
  by_cases q2 : sb_nc t n a = sb_n 99
  · rw [if_pos q2, if_pos q2]; exact sb_Wneg sb_10 (eqs (k := 1) (by omega) (by omega) q2)
  rw [if_neg q2, if_neg q2]
  refine sb_Wpos rfl ?_
  rw [sb_Lt_takes h (by omega)]
  refine sb_Wbind (sb_Wsome ?_)
  by_cases q3 : sb_nc t n a = sb_n 111
  · rw [if_pos q3, if_pos q3]; exact sb_Wneg sb_10 (eqs (k := 2) (by omega) (by omega) q3)
  rw [if_neg q3, if_neg q3]
  refine sb_Wpos rfl ?_
  rw [sb_Lt_takes h (by omega)]
  refine sb_Wbind (sb_Wsome ?_)
  by_cases q4 : sb_nc t n a = sb_n 116
  · rw [if_pos q4, if_pos q4]; exact sb_Wneg sb_10 (lgs (k := 3) (by omega) (by omega) q4)
  rw [if_neg q4, if_neg q4]
  refine sb_Wpos rfl ?_
  rw [sb_Lt_takes h (by omega)]
  refine sb_Wbind (sb_Wsome ?_)
  by_cases q5 : sb_nc t n a = sb_n 100
  · rw [if_pos q5, if_pos q5]; exact sb_Wneg sb_10 (lgs (k := 5) (by omega) (by omega) q5)
  rw [if_neg q5, if_neg q5]
  refine sb_Wpos rfl ?_
  rw [sb_Lt_takes h (by omega)]
  refine sb_Wbind (sb_Wsome ?_)
  by_cases q6 : sb_nc t n a = sb_n 98
  · rw [if_pos q6, if_pos q6]; exact sb_Wneg sb_10 (ems (k := 7) (by omega) q6)
  rw [if_neg q6, if_neg q6]
  refine sb_Wpos rfl ?_
  rw [sb_Lt_takes h (by omega)]
  refine sb_Wbind (sb_Wsome ?_)
  by_cases q7 : sb_nc t n a = sb_n 120
  · rw [if_pos q7, if_pos q7]; exact sb_Wneg sb_10 (ems (k := 8) (by omega) q7)
  rw [if_neg q7, if_neg q7]
  exact sb_Wpos rfl (sb_Lt_tno h (sb_fr_refl _ _))
theorem sb_Lt_both_b12 {f : Nat → sb_PR} {ff : Int32 → sv_S → Option (Int32 × sv_S)} {x : Int32} {st0 : List Int32} (hn : n ≤ 140) (hff : ∀ b st u, sb_LT t n b st u → sb_W (ff x u) (sb_Lp t n st u (f b))) (hgp : ∀ b, b ≤ n → sb_gp n b (f b)) :
    ∀ (m k d b : Nat) (st : List Int32) (u : sv_S), d + m = 140 → m < k → sb_LT t n b (st0 ++ st) u → sb_fr [77004, 77005, 80] s u → sb_W (F_Lt_both_b12o ff k x (sb_n d) u) (sb_Lp t n st0 s (sb_moL t n 38 100000 f m b st)) := by
  intro m
  induction m with
  | zero =>
    intro k d b st u hd hk h hf
    obtain ⟨k, rfl⟩ : ∃ g, k = g + 1 := ⟨k - 1, by omega⟩
    simp only [F_Lt_both_b12o, sb_moL]
    refine sb_Wpos (by first | omega | (simp (disch := omega) only [sb_lit, sb_n_add, sb_n_mul, sb_n_ix, sb_n_lt, sb_n_le, sb_n_eq, sb_ib_n] <;> omega)) ?_
    exact sb_Wsome ⟨rfl, h, hf⟩
  | succ m ih =>
    intro k d b st u hd hk h hf
    obtain ⟨k, rfl⟩ : ∃ g, k = g + 1 := ⟨k - 1, by omega⟩
    have hb := h.1
    rw [List.length_append] at hb
    simp only [F_Lt_both_b12o, sb_moL]
    refine sb_Wneg (by first | omega | (simp (disch := omega) only [sb_lit, sb_n_add, sb_n_mul, sb_n_ix, sb_n_lt, sb_n_le, sb_n_eq, sb_ib_n] <;> omega)) ?_
    simp only [sb_lit]
    rw [sb_Lt_takes h (by omega)]
    refine sb_Wbind (sb_Wsome ?_)
    by_cases q : sb_nc t n b = sb_n 38
    · rw [if_pos q, if_pos q]
      have hlt := sb_nc_lt (by omega) q
      have g := hgp (b + 1) (by omega)
      unfold sb_gp at g
      refine sb_Wneg sb_10 ?_
      refine sb_Wbind2 (hff (b + 1) (st0 ++ st) _ (sb_LT_at (b := b + 1) h (by omega) (by rw [List.length_append]; omega))) (fun r hr => ?_)
      obtain ⟨r1, r2, r3⟩ := hr
      have f2 := sb_fr_trans (sb_fr_set (L := [77004, 77005, 80]) hf rfl) r3
      rw [r1]
      simp only [sb_b0]
      by_cases w : (f (b + 1)).1 = true
      · rw [if_pos w, if_neg (by rw [w]; decide)]
        refine sb_Wbind2 (sb_Lt_emit (x := 10) (y := 0) r2 (by rw [List.length_append, List.length_append]; omega)) (fun r' hr' => ?_)
        refine sb_Wlet ?_
        simp (disch := omega) only [sb_lit, sb_n_add, sb_n_mul, sb_n_ix, sb_n_lt, sb_n_le, sb_n_eq, sb_ib_n]
        refine ih k (d + 1) _ _ r' (by omega) (by omega) ?_ (sb_fr_trans f2 (sb_fr_mono hr'.2 (by decide)))
        have := hr'.1
        rw [List.append_assoc, List.append_assoc] at this
        rw [List.append_assoc]
        exact this
      · have w' : (f (b + 1)).1 = false := by simpa using w
        rw [if_neg w, if_pos w']
        exact sb_Wsome ⟨rfl, by rw [← List.append_assoc]; exact r2, f2⟩
    · rw [if_neg q, if_neg q]
      exact sb_Wpos rfl (sb_Wsome ⟨rfl, h, hf⟩)
theorem sb_Lt_both {f : Nat → sb_PR} {ff : Int32 → sv_S → Option (Int32 × sv_S)} {x : Int32} (hn : n ≤ 140) (hff : ∀ b st u, sb_LT t n b st u → sb_W (ff x u) (sb_Lp t n st u (f b))) (hgp : ∀ b, b ≤ n → sb_gp n b (f b)) (h : sb_LT t n a st s) : sb_W (F_Lt_both_o ff x s) (sb_Lp t n st s (sb_mo t n 38 100000 f a)) := by
  unfold F_Lt_both_o sb_mo
  simp only [sb_lit]
  refine sb_Wbind2 (hff a st s h) (fun r hr => ?_)
  obtain ⟨r1, r2, r3⟩ := hr
  rw [r1]
  simp only [sb_b0]
  by_cases w : (f a).1 = true
  · rw [if_pos w, if_neg (by rw [w]; decide)]
    exact sb_Lt_both_b12 (s := s) hn hff hgp 140 ss_F 0 _ _ r.2 (by omega) (by unfold ss_F; omega) r2 r3
  · have w' : (f a).1 = false := by simpa using w
    rw [if_neg w, if_pos w']
    refine sb_Wsome ⟨?_, r2, r3⟩
    rw [w']; rfl
theorem sb_Lt_either_b12 {f : Nat → sb_PR} {ff : Int32 → sv_S → Option (Int32 × sv_S)} {x : Int32} {st0 : List Int32} (hn : n ≤ 140) (hff : ∀ b st u, sb_LT t n b st u → sb_W (ff x u) (sb_Lp t n st u (f b))) (hgp : ∀ b, b ≤ n → sb_gp n b (f b)) :
    ∀ (m k d b : Nat) (st : List Int32) (u : sv_S), d + m = 140 → m < k → sb_LT t n b (st0 ++ st) u → sb_fr [77004, 77005, 80] s u → sb_W (F_Lt_either_b12o ff k x (sb_n d) u) (sb_Lp t n st0 s (sb_moL t n 124 110000 f m b st)) := by
  intro m
  induction m with
  | zero =>
    intro k d b st u hd hk h hf
    obtain ⟨k, rfl⟩ : ∃ g, k = g + 1 := ⟨k - 1, by omega⟩
    simp only [F_Lt_either_b12o, sb_moL]
    refine sb_Wpos (by first | omega | (simp (disch := omega) only [sb_lit, sb_n_add, sb_n_mul, sb_n_ix, sb_n_lt, sb_n_le, sb_n_eq, sb_ib_n] <;> omega)) ?_
    exact sb_Wsome ⟨rfl, h, hf⟩
  | succ m ih =>
    intro k d b st u hd hk h hf
    obtain ⟨k, rfl⟩ : ∃ g, k = g + 1 := ⟨k - 1, by omega⟩
    have hb := h.1
    rw [List.length_append] at hb
    simp only [F_Lt_either_b12o, sb_moL]
    refine sb_Wneg (by first | omega | (simp (disch := omega) only [sb_lit, sb_n_add, sb_n_mul, sb_n_ix, sb_n_lt, sb_n_le, sb_n_eq, sb_ib_n] <;> omega)) ?_
    simp only [sb_lit]
    rw [sb_Lt_takes h (by omega)]
    refine sb_Wbind (sb_Wsome ?_)
    by_cases q : sb_nc t n b = sb_n 124
    · rw [if_pos q, if_pos q]
      have hlt := sb_nc_lt (by omega) q
      have g := hgp (b + 1) (by omega)
      unfold sb_gp at g
      refine sb_Wneg sb_10 ?_
      refine sb_Wbind2 (hff (b + 1) (st0 ++ st) _ (sb_LT_at (b := b + 1) h (by omega) (by rw [List.length_append]; omega))) (fun r hr => ?_)
      obtain ⟨r1, r2, r3⟩ := hr
      have f2 := sb_fr_trans (sb_fr_set (L := [77004, 77005, 80]) hf rfl) r3
      rw [r1]
      simp only [sb_b0]
      by_cases w : (f (b + 1)).1 = true
      · rw [if_pos w, if_neg (by rw [w]; decide)]
        refine sb_Wbind2 (sb_Lt_emit (x := 11) (y := 0) r2 (by rw [List.length_append, List.length_append]; omega)) (fun r' hr' => ?_)
        refine sb_Wlet ?_
        simp (disch := omega) only [sb_lit, sb_n_add, sb_n_mul, sb_n_ix, sb_n_lt, sb_n_le, sb_n_eq, sb_ib_n]
        refine ih k (d + 1) _ _ r' (by omega) (by omega) ?_ (sb_fr_trans f2 (sb_fr_mono hr'.2 (by decide)))
        have := hr'.1
        rw [List.append_assoc, List.append_assoc] at this
        rw [List.append_assoc]
        exact this
      · have w' : (f (b + 1)).1 = false := by simpa using w
        rw [if_neg w, if_pos w']
        exact sb_Wsome ⟨rfl, by rw [← List.append_assoc]; exact r2, f2⟩
    · rw [if_neg q, if_neg q]
      exact sb_Wpos rfl (sb_Wsome ⟨rfl, h, hf⟩)
theorem sb_Lt_either {f : Nat → sb_PR} {ff : Int32 → sv_S → Option (Int32 × sv_S)} {x : Int32} (hn : n ≤ 140) (hff : ∀ b st u, sb_LT t n b st u → sb_W (ff x u) (sb_Lp t n st u (f b))) (hgp : ∀ b, b ≤ n → sb_gp n b (f b)) (h : sb_LT t n a st s) : sb_W (F_Lt_either_o ff x s) (sb_Lp t n st s (sb_mo t n 124 110000 f a)) := by
  unfold F_Lt_either_o sb_mo
  simp only [sb_lit]
  refine sb_Wbind2 (hff a st s h) (fun r hr => ?_)
  obtain ⟨r1, r2, r3⟩ := hr
  rw [r1]
  simp only [sb_b0]
  by_cases w : (f a).1 = true
  · rw [if_pos w, if_neg (by rw [w]; decide)]
    exact sb_Lt_either_b12 (s := s) hn hff hgp 140 ss_F 0 _ _ r.2 (by omega) (by unfold ss_F; omega) r2 r3
  · have w' : (f a).1 = false := by simpa using w
    rw [if_neg w, if_pos w']
    refine sb_Wsome ⟨?_, r2, r3⟩
    rw [w']; rfl
theorem sb_Lt_factor (hn : n ≤ 140) : ∀ (k m w : Nat), w + k = 5 → k < m → ∀ a st u, sb_LT t n a st u → sb_W (F_Lt_factorN m (sb_n w) u) (sb_Lp t n st u (sb_fac t n k a)) := by
  intro k
  induction k with
  | zero =>
    intro m w hw hm a st u h
    obtain ⟨m, rfl⟩ : ∃ g, m = g + 1 := ⟨m - 1, by omega⟩
    simp only [F_Lt_factorN, F_Lt_factor_o, F_Lt_factor_b31o, sb_fac]
    refine sb_Wpos (by first | omega | (simp (disch := omega) only [sb_lit, sb_n_add, sb_n_mul, sb_n_ix, sb_n_lt, sb_n_le, sb_n_eq, sb_ib_n] <;> omega)) ?_
    refine sb_Wpos (by first | omega | (simp (disch := omega) only [sb_lit, sb_n_add, sb_n_mul, sb_n_ix, sb_n_lt, sb_n_le, sb_n_eq, sb_ib_n] <;> omega)) ?_
    refine sb_Wbind2 (sb_Lt_test h) (fun r hr => ?_)
    rw [hr.1, if_pos sb_bl_b]
    exact sb_Wsome ⟨rfl, hr.2⟩
  | succ k ih =>
    intro m w hw hm a st u h
    obtain ⟨m, rfl⟩ : ∃ g, m = g + 1 := ⟨m - 1, by omega⟩
    have hb := h.1
    have IH := ih m (w + 1) (by omega) (by omega)
    simp only [F_Lt_factorN, F_Lt_factor_o, F_Lt_factor_b31o, sb_fac]
    refine sb_Wneg (by first | omega | (simp (disch := omega) only [sb_lit, sb_n_add, sb_n_mul, sb_n_ix, sb_n_lt, sb_n_le, sb_n_eq, sb_ib_n] <;> omega)) ?_
    simp only [sb_lit]
    rw [sb_Lt_takes h (by omega)]
    refine sb_Wbind (sb_Wsome ?_)
    by_cases q : sb_nc t n a = sb_n 33
    · rw [if_pos q, if_pos q]
      have hlt := sb_nc_lt (by omega) q
      have g := sb_fac_gp (t := t) hn k (a + 1) (by omega)
      unfold sb_gp at g
      refine sb_Wneg sb_10 ?_
      rw [sb_n_add]
      refine sb_Wbind2 (IH (a + 1) st _ (sb_LT_at (b := a + 1) h (by omega) (by omega))) (fun r hr => ?_)
      obtain ⟨r1, r2, r3⟩ := hr
      have f2 := sb_fr_trans (sb_fr_set (L := [77004, 77005, 80]) (sb_fr_refl _ u) rfl) r3
      rw [sb_n_i 9, sb_n_i 0]
      refine sb_Wbind2 (sb_Lt_emit (x := (9 : Nat)) (y := (0 : Nat)) r2 (by rw [List.length_append]; omega)) (fun r' hr' => ?_)
      rw [r1, if_pos sb_bl_b]
      refine sb_Wsome ⟨rfl, ?_, sb_fr_trans f2 (sb_fr_mono hr'.2 (by decide))⟩
      rw [← List.append_assoc]; exact hr'.1
    · rw [if_neg q, if_neg q]
      refine sb_Wpos rfl ?_
      refine sb_Wneg (by first | omega | (simp (disch := omega) only [sb_lit, sb_n_add, sb_n_mul, sb_n_ix, sb_n_lt, sb_n_le, sb_n_eq, sb_ib_n] <;> omega)) ?_
      rw [sb_Lt_takes h (by omega)]
      refine sb_Wbind (sb_Wsome ?_)
      by_cases q2 : sb_nc t n a = sb_n 40
      · rw [if_pos q2, if_pos q2]
        have hlt := sb_nc_lt (by omega) q2
        have g1 : ∀ b, b ≤ n → sb_gp n b (sb_mo t n 38 100000 (sb_fac t n k) b) := fun b hb => (sb_mo_gp (by omega) (sb_fac_gp hn k) hb hn).1
        have g := (sb_mo_gp (t := t) (sign := 124) (step := 110000) (a := a + 1) (by omega) g1 (by omega) hn).1
        refine sb_Wneg sb_10 ?_
        rw [sb_n_add]
        have fb : ∀ b st u, sb_LT t n b st u → sb_W (F_Lt_both_o (F_Lt_factorN m) (sb_n (w + 1)) u) (sb_Lp t n st u (sb_mo t n 38 100000 (sb_fac t n k) b)) := fun b st u hu => sb_Lt_both hn IH (sb_fac_gp hn k) hu
        refine sb_Wbind2 (sb_Lt_either hn fb g1 (sb_LT_at (b := a + 1) h (by omega) (by omega))) (fun r hr => ?_)
        generalize sb_mo t n 124 110000 (sb_mo t n 38 100000 (sb_fac t n k)) (a + 1) = p at hr g ⊢
        obtain ⟨r1, r2, r3⟩ := hr
        unfold sb_gp at g
        have f2 := sb_fr_trans (sb_fr_set (L := [77004, 77005, 80]) (sb_fr_refl _ u) rfl) r3
        rw [r1]
        simp only [sb_b0]
        by_cases v : p.1 = true
        · rw [if_pos v, if_neg (by rw [v]; decide), sb_Lt_takes r2 (by omega)]
          refine sb_Wbind (sb_Wsome ?_)
          by_cases q3 : sb_nc t n p.2.1 = sb_n 41
          · rw [if_pos q3, if_pos q3]
            have hlt2 := sb_nc_lt (by omega) q3
            exact sb_Wneg sb_10 (sb_Wsome ⟨rfl, sb_LT_at (b := p.2.1 + 1) (st := st ++ p.2.2) r2 (by omega) (by rw [List.length_append]; omega), sb_fr_set f2 rfl⟩)
          · rw [if_neg q3, if_neg q3]
            exact sb_Wpos rfl (sb_Wsome ⟨rfl, r2, f2⟩)
        · have v' : p.1 = false := by simpa using v
          rw [if_neg v, if_pos v']
          exact sb_Wsome ⟨by rw [v']; rfl, r2, f2⟩
      · rw [if_neg q2, if_neg q2]
        refine sb_Wpos rfl ?_
        refine sb_Wbind2 (sb_Lt_test h) (fun r hr => ?_)
        rw [hr.1, if_pos sb_bl_b]
        exact sb_Wsome ⟨rfl, hr.2⟩
theorem sb_Lt_exp (h : sb_LT t n a st s) : sb_W (F_Lt_either (sb_n 0) s) (sb_Lp t n st s (sb_exp t n a)) := by
  have hn := h.1.1
  unfold F_Lt_either sb_exp
  refine sb_Lt_either hn (fun b st u hu => ?_) (fun b hb => (sb_mo_gp (by omega) (sb_fac_gp hn 5) hb hn).1) h
  unfold F_Lt_both
  refine sb_Lt_both hn (fun b st u hu => ?_) (sb_fac_gp hn 5) hu
  unfold F_Lt_factor
  exact sb_Lt_factor hn 5 10 0 (by omega) (by omega) b st u hu
end LT
