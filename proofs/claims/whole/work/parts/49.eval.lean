/-! what steps say of facts -/
def sb_pss (F : Nat → Int32) (sort v : Int) : Bool :=
  if sort = 0 then decide ((F 0).toInt = v) else if sort = 1 then decide ((F 1).toInt = v) else if sort = 2 then decide ((F 2).toInt = v)
  else if sort = 3 then decide ((F 3).toInt < v) else if sort = 4 then decide (v < (F 3).toInt) else if sort = 5 then decide ((F 4).toInt < v) else if sort = 6 then decide (v < (F 4).toInt)
  else if sort = 7 then decide ((F 5).toInt = 1) else decide ((F 6).toInt = 1)
def sb_e1 (F : Nat → Int32) (c : Int32) (st : List Bool) : List Bool :=
  if c.toInt / 10000 = 9 then (match st with | x :: r => (!x) :: r | [] => [])
  else if c.toInt / 10000 = 10 then (match st with | y :: x :: r => (x && y) :: r | r => r)
  else if c.toInt / 10000 = 11 then (match st with | y :: x :: r => (x || y) :: r | r => r)
  else sb_pss F (c.toInt / 10000) (c.toInt % 10000) :: st
def sb_ev (F : Nat → Int32) : List Int32 → List Bool → List Bool
  | [], st => st
  | c :: l, st => sb_ev F l (sb_e1 F c st)
def sb_val (F : Nat → Int32) (l : List Int32) (v : Bool) : Prop := ∀ st, sb_ev F l st = v :: st
/-- how deep it goes -/
def sb_mx : List Int32 → Nat → Nat
  | [], d => d
  | c :: l, d => max d (sb_mx l (if c.toInt / 10000 = 9 then d else if c.toInt / 10000 = 10 ∨ c.toInt / 10000 = 11 then d - 1 else d + 1))
section EV
variable {F : Nat → Int32} {l l' : List Int32} {v w : Bool}
theorem sb_ev_app : ∀ (l l' : List Int32) (st : List Bool), sb_ev F (l ++ l') st = sb_ev F l' (sb_ev F l st)
  | [], _, _ => rfl
  | c :: l, l', st => sb_ev_app l l' _
theorem sb_val_not (h : sb_val F l v) : sb_val F (l ++ [sb_i 90000]) (!v) := by
  intro st; rw [sb_ev_app, h st]; simp only [sb_ev, sb_e1]; rw [sb_ti (by omega) (by omega)]; rfl
theorem sb_val_and (h : sb_val F l v) (h' : sb_val F l' w) : sb_val F (l ++ l' ++ [sb_i 100000]) (v && w) := by
  intro st; rw [sb_ev_app, sb_ev_app, h st, h']; simp only [sb_ev, sb_e1]; rw [sb_ti (by omega) (by omega)]; rfl
theorem sb_val_or (h : sb_val F l v) (h' : sb_val F l' w) : sb_val F (l ++ l' ++ [sb_i 110000]) (v || w) := by
  intro st; rw [sb_ev_app, sb_ev_app, h st, h']; simp only [sb_ev, sb_e1]; rw [sb_ti (by omega) (by omega)]; rfl
theorem sb_val_test {k : Int} {x : Int} (hk : 0 ≤ k) (hk8 : k ≤ 8) (hx : 0 ≤ x) (hx9 : x ≤ 9999) : sb_val F [sb_i (k * 10000 + x)] (sb_pss F k x) := by
  intro st
  simp only [sb_ev, sb_e1]
  rw [sb_ti (by omega) (by omega)]
  have e1 : (k * 10000 + x) / 10000 = k := by omega
  have e2 : (k * 10000 + x) % 10000 = x := by omega
  rw [e1, e2, if_neg (by omega), if_neg (by omega), if_neg (by omega)]
end EV
section MTE
variable {t : Nat → Int32} {n a base : Nat} {s : sv_S} {W : List Int32} {P : List Bool}
theorem sb_ME_num {b : Nat} {u : sv_S} (h : sb_ME t n a base W P s) (hf : sb_fr [187025, 187026] s u) (hM : sb_MT t n b base u) (hab : a ≤ b) : sb_ME t n b base W P u := by
  refine ⟨hM, ⟨by have := h.2.1; omega, by have := h.2.1; omega⟩, ?_, ?_, ?_, ?_, ?_⟩
  · rw [hf.1 187 29 rfl]; exact h.2.2.1
  · exact sb_sk_up _ (fun i _ => hf.1 203 i rfl) h.2.2.2.1
  · rw [hf.1 187 30 rfl]; exact h.2.2.2.2.1
  · exact sb_skb_up _ (fun i _ => hf.1 204 i rfl) h.2.2.2.2.2.1
  · rw [hf.1 187 31 rfl]; exact h.2.2.2.2.2.2
/-- what a test leaves -/
def sb_TP (t : Nat → Int32) (n base : Nat) (W : List Int32) (P : List Bool) (s : sv_S) (p : sb_PR) (r : Int32 × sv_S) : Prop :=
  r.1 = sb_b p.1 ∧ sb_fr sb_ZE s r.2 ∧ (p.1 = true → ∃ v, sb_val (s.1 202) p.2.2 v ∧ sb_ME t n p.2.1 base (sb_pn W v).2 ((sb_pn W v).1 :: P) r.2) ∧ (p.1 = false → r.2.1 187 25 = sb_n p.2.1)
theorem sb_push_TP {u : sv_S} {c : Bool} {p : sb_PR} (h : sb_ME t n p.2.1 base W P u) (hP : P.length < p.2.1) (hf : sb_fr sb_ZE s u) (hv : sb_val (s.1 202) p.2.2 c) (hp : p.1 = true) : sb_W ((F_Mo_push (sb_b c) u).bind fun r => some ((1 : Int32), r)) (sb_TP t n base W P s p) := by
  have hb := h.1.1
  have hW := h.2.1.1
  unfold F_Mo_push
  refine sb_Wbind2 (sb_Mo_push (s := s) W ss_F c u (by unfold ss_F; omega) hP h hf) (fun r hr => ?_)
  exact sb_Wsome ⟨by rw [hp]; rfl, hr.2, fun _ => ⟨c, hv, hr.1⟩, fun q => by rw [hp] at q; cases q⟩
theorem sb_Mo_tnu {u : sv_S} {k : Nat} {o : Int32} {sort : Int} (h : sb_ME t n a base W P u) (hf : sb_fr sb_ZE s u) (ha : a + 1 ≤ n) (hP : P.length < a) (hs0 : 0 ≤ sort) (hs8 : sort ≤ 6) (hk : k ≤ 4)
    (ho : (o = sb_n 61 ∧ k ≤ 2 ∧ sort = k) ∨ (o = sb_n 60 ∧ ((k = 3 ∧ sort = 3) ∨ (k = 4 ∧ sort = 5))) ∨ (o = sb_n 62 ∧ ((k = 3 ∧ sort = 4) ∨ (k = 4 ∧ sort = 6)))) : sb_W (F_Mo_takesTest_b153 (sb_n k) o u) (sb_TP t n base W P s (sb_tnu t n sort (a + 1))) := by
  have hb := h.1.1
  unfold F_Mo_takesTest_b153
  refine sb_Wlet ?_
  rw [h.1.2.2.2.1]
  simp only [sb_lit]
  rw [sb_n_add]
  have h1 := sb_ME_at (b := a + 1) h (by omega) (by omega)
  refine sb_Wbind2 (sb_Mo_takesNumber h1.1) (fun r hr => ?_)
  obtain ⟨r1, r2, r3, r4⟩ := hr
  have f2 : sb_fr sb_ZE s r.2 := sb_fr_trans (sb_fr_set hf rfl) (sb_fr_mono r2 (by decide))
  rw [r1]
  simp only [sb_b0]
  unfold sb_no at r3 r4
  unfold sb_tnu
  by_cases q : sb_dg (sb_nc t n (a + 1)) = true
  · rw [if_pos q] at r3 r4
    rw [if_pos q, if_neg (by rw [q]; decide)]
    have r4 := r4 q
    have g := sb_num4 (t := t) (n := n) (a := a + 1) (by omega)
    have m3 := sb_ME_num h1 r2 r3 (by omega)
    have F2 : ∀ j, r.2.1 202 j = s.1 202 j := fun j => f2.1 202 j rfl
    generalize (sb_num t n 4 (a + 1) 0).1 = x at *
    generalize (sb_num t n 4 (a + 1) 0).2 = b at *
    have vt : sb_val (s.1 202) [sb_i (sort * 10000 + x)] (sb_pss (s.1 202) sort x) := sb_val_test hs0 (by omega) g.2.2.1 g.2.2.2
    have T : ∀ c : Bool, c = sb_pss (s.1 202) sort x → sb_W ((F_Mo_push (sb_b c) r.2).bind fun r => some ((1 : Int32), r)) (sb_TP t n base W P s (true, b, [sb_i (sort * 10000 + x)])) := fun c hc => sb_push_TP (p := (true, b, [sb_i (sort * 10000 + x)])) m3 (show P.length < b by omega) f2 (by rw [hc]; exact vt) rfl
    have ix : (sb_n k).toNatClampNeg = k := sb_n_ix (by omega)
    have ti : (sb_i x).toInt = x := sb_ti (by omega) (by omega)
    have sp : ∀ y : Int32, (y = sb_i x) = (y.toInt = x) := fun y => by rw [← Int32.toInt_inj, ti]
    have sl : ∀ y : Int32, (sb_i x ≤ y) = (x ≤ y.toInt) := fun y => by rw [Int32.le_iff_toInt_le, ti]
    have sg : ∀ y : Int32, (y ≤ sb_i x) = (y.toInt ≤ x) := fun y => by rw [Int32.le_iff_toInt_le, ti]
    have T1 := T true
    have T0 := T false
    rcases ho with ⟨rfl, k2, rfl⟩ | ⟨rfl, ho⟩ | ⟨rfl, ho⟩
    · refine sb_Wpos rfl ?_
      refine sb_Wpos (by first | omega | (simp (disch := omega) only [sb_lit, sb_n_add, sb_n_mul, sb_n_ix, sb_n_lt, sb_n_le, sb_n_eq, sb_ib_n] <;> omega)) ?_
      rw [ix, F2, r4]
      simp only [sp]
      have hps : sb_pss (s.1 202) k x = decide ((s.1 202 k).toInt = x) := by
        have : k = 0 ∨ k = 1 ∨ k = 2 := by omega
        rcases this with rfl | rfl | rfl <;> rfl
      rw [hps] at T1 T0
      refine sb_Wif (fun w => T1 (by simp [w])) (fun w => T0 (by simp [w]))
    · refine sb_Wneg (by decide) ?_
      refine sb_Wpos rfl ?_
      refine sb_Wpos (by first | omega | (simp (disch := omega) only [sb_lit, sb_n_add, sb_n_mul, sb_n_ix, sb_n_lt, sb_n_le, sb_n_eq, sb_ib_n] <;> omega)) ?_
      rw [ix, F2, r4]
      simp only [sl]
      have hps : sb_pss (s.1 202) sort x = decide ((s.1 202 k).toInt < x) := by
        rcases ho with ⟨rfl, rfl⟩ | ⟨rfl, rfl⟩ <;> rfl
      rw [hps] at T1 T0
      refine sb_Wif (fun w => T0 (by simp; omega)) (fun w => T1 (by simp; omega))
    · refine sb_Wneg (by decide) ?_
      refine sb_Wneg (by decide) ?_
      refine sb_Wpos (by first | omega | (simp (disch := omega) only [sb_lit, sb_n_add, sb_n_mul, sb_n_ix, sb_n_lt, sb_n_le, sb_n_eq, sb_ib_n] <;> omega)) ?_
      rw [ix, F2, r4]
      simp only [sg]
      have hps : sb_pss (s.1 202) sort x = decide (x < (s.1 202 k).toInt) := by
        rcases ho with ⟨rfl, rfl⟩ | ⟨rfl, rfl⟩ <;> rfl
      rw [hps] at T1 T0
      refine sb_Wif (fun w => T0 (by simp; omega)) (fun w => T1 (by simp; omega))
  · have q' : sb_dg (sb_nc t n (a + 1)) = false := by simpa using q
    rw [if_neg q] at r3
    rw [if_neg q, if_pos q']
    exact sb_Wsome ⟨rfl, f2, (fun w => by cases w), fun _ => r3.2.2.2.1⟩
theorem sb_Mo_test (h : sb_ME t n a base W P s) : sb_W (F_Mo_takesTest s) (sb_TP t n base W P s (sb_tst t n a)) := by
  have hb := h.1.1
  have hP := h.2.1.2
  have h25 := h.1.2.2.2.1
  have f1 : ∀ v, sb_fr sb_ZE s (ss_setI s 187 25 v) := fun v => sb_fr_set (sb_fr_refl _ _) rfl
  have eqs : ∀ {c k : Nat}, c ≤ 127 → k ≤ 2 → sb_nc t n a = sb_n c → sb_W (F_Mo_takesTest_b77 (sb_n k) s) (sb_TP t n base W P s (if sb_nc t n (a + 1) = sb_n 61 then sb_tnu t n k (a + 2) else (false, a + 1, []))) := by
    intro c k hc hk e
    have hlt := sb_nc_lt hc e
    have h1 := sb_ME_at (b := a + 1) h (by omega) (by omega)
    unfold F_Mo_takesTest_b77
    refine sb_Wpos (by first | omega | (simp (disch := omega) only [sb_lit, sb_n_add, sb_n_mul, sb_n_ix, sb_n_lt, sb_n_le, sb_n_eq, sb_ib_n] <;> omega)) ?_
    refine sb_Wlet ?_
    rw [h25]
    simp only [sb_lit]
    rw [sb_n_add]
    refine sb_Wpos (by first | omega | (simp (disch := omega) only [sb_lit, sb_n_add, sb_n_mul, sb_n_ix, sb_n_lt, sb_n_le, sb_n_eq, sb_ib_n] <;> omega)) ?_
    rw [sb_next_M h1.1]
    refine sb_Wbind (sb_Wsome ?_)
    refine sb_Wneg (by first | omega | (simp (disch := omega) only [sb_lit, sb_n_add, sb_n_mul, sb_n_ix, sb_n_lt, sb_n_le, sb_n_eq, sb_ib_n] <;> omega)) ?_
    by_cases q : sb_nc t n (a + 1) = sb_n 61
    · rw [if_pos q]
      refine sb_Wpos q ?_
      rw [q]
      have hlt2 := sb_nc_lt (by omega) q
      exact sb_Mo_tnu h1 (f1 _) (by omega) (by omega) (by omega) (by omega) (by omega) (Or.inl ⟨rfl, hk, rfl⟩)
    · rw [if_neg q]
      refine sb_Wneg q ?_
      exact sb_Wsome ⟨rfl, f1 _, (fun w => by cases w), fun _ => sb_set_eq⟩
  have lgs : ∀ {c k : Nat} {s1 s2 : Int}, c ≤ 127 → ((k = 3 ∧ s1 = 3 ∧ s2 = 4) ∨ (k = 4 ∧ s1 = 5 ∧ s2 = 6)) → sb_nc t n a = sb_n c → sb_W (F_Mo_takesTest_b77 (sb_n k) s) (sb_TP t n base W P s (if sb_nc t n (a + 1) = sb_n 60 then sb_tnu t n s1 (a + 2) else if sb_nc t n (a + 1) = sb_n 62 then sb_tnu t n s2 (a + 2) else (false, a + 1, []))) := by
    intro c k s1 s2 hc hk e
    have hlt := sb_nc_lt hc e
    have h1 := sb_ME_at (b := a + 1) h (by omega) (by omega)
    unfold F_Mo_takesTest_b77
    refine sb_Wpos (by first | omega | (simp (disch := omega) only [sb_lit, sb_n_add, sb_n_mul, sb_n_ix, sb_n_lt, sb_n_le, sb_n_eq, sb_ib_n] <;> omega)) ?_
    refine sb_Wlet ?_
    rw [h25]
    simp only [sb_lit]
    rw [sb_n_add]
    refine sb_Wpos (by first | omega | (simp (disch := omega) only [sb_lit, sb_n_add, sb_n_mul, sb_n_ix, sb_n_lt, sb_n_le, sb_n_eq, sb_ib_n] <;> omega)) ?_
    rw [sb_next_M h1.1]
    refine sb_Wbind (sb_Wsome ?_)
    refine sb_Wpos (by first | omega | (simp (disch := omega) only [sb_lit, sb_n_add, sb_n_mul, sb_n_ix, sb_n_lt, sb_n_le, sb_n_eq, sb_ib_n] <;> omega)) ?_
    by_cases q : sb_nc t n (a + 1) = sb_n 60
    · rw [if_pos q]
      refine sb_Wpos q ?_
      rw [q]
      have hlt2 := sb_nc_lt (by omega) q
      exact sb_Mo_tnu h1 (f1 _) (by omega) (by omega) (by omega) (by omega) (by omega) (Or.inr (Or.inl ⟨rfl, by omega⟩))
    · rw [if_neg q]
      refine sb_Wneg q ?_
      by_cases q2 : sb_nc t n (a + 1) = sb_n 62
      · rw [if_pos q2]
        refine sb_Wpos q2 ?_
        rw [q2]
        have hlt2 := sb_nc_lt (by omega) q2
        exact sb_Mo_tnu h1 (f1 _) (by omega) (by omega) (by omega) (by omega) (by omega) (Or.inr (Or.inr ⟨rfl, by omega⟩))
      · rw [if_neg q2]
        refine sb_Wneg q2 ?_
        exact sb_Wsome ⟨rfl, f1 _, (fun w => by cases w), fun _ => sb_set_eq⟩
  have bxs : ∀ {c k : Nat}, c ≤ 127 → (k = 5 ∨ k = 6) → sb_nc t n a = sb_n c → sb_W (F_Mo_takesTest_b77 (sb_n k) s) (sb_TP t n base W P s (true, a + 1, [sb_i (((k : Int) + 2) * 10000 + 0)])) := by
    intro c k hc hk e
    have hlt := sb_nc_lt hc e
    have h1 := sb_ME_at (b := a + 1) h (by omega) (by omega)
    unfold F_Mo_takesTest_b77
    refine sb_Wpos (by first | omega | (simp (disch := omega) only [sb_lit, sb_n_add, sb_n_mul, sb_n_ix, sb_n_lt, sb_n_le, sb_n_eq, sb_ib_n] <;> omega)) ?_
    refine sb_Wlet ?_
    rw [h25]
    simp only [sb_lit]
    rw [sb_n_add]
    refine sb_Wneg (by first | omega | (simp (disch := omega) only [sb_lit, sb_n_add, sb_n_mul, sb_n_ix, sb_n_lt, sb_n_le, sb_n_eq, sb_ib_n] <;> omega)) ?_
    refine sb_Wpos (by first | omega | (simp (disch := omega) only [sb_lit, sb_n_add, sb_n_mul, sb_n_ix, sb_n_lt, sb_n_le, sb_n_eq, sb_ib_n] <;> omega)) ?_
    rw [sb_n_ix (by omega)]
    have e2 : (ss_setI s 187 25 (sb_n (a + 1))).1 202 k = s.1 202 k := sb_set_ne (by omega)
    have vt : sb_val (s.1 202) [sb_i (((k : Int) + 2) * 10000 + 0)] (sb_pss (s.1 202) ((k : Int) + 2) 0) := sb_val_test (by omega) (by omega) (by omega) (by omega)
    have hps : sb_pss (s.1 202) ((k : Int) + 2) 0 = decide ((s.1 202 k).toInt = 1) := by
      rcases hk with rfl | rfl <;> rfl
    rw [hps] at vt
    have z : (s.1 202 k = sb_n 1) = ((s.1 202 k).toInt = 1) := sb_c_eqn (by omega)
    simp only [e2, z]
    refine sb_Wif (fun w => ?_) (fun w => ?_)
    · refine sb_push_TP (c := true) (p := (true, a + 1, [sb_i (((k : Int) + 2) * 10000 + 0)])) h1 (show P.length < a + 1 by omega) (f1 _) ?_ rfl
      rw [decide_eq_true w] at vt; exact vt
    · refine sb_push_TP (c := false) (p := (true, a + 1, [sb_i (((k : Int) + 2) * 10000 + 0)])) h1 (show P.length < a + 1 by omega) (f1 _) ?_ rfl
      rw [decide_eq_false w] at vt; exact vt
  unfold F_Mo_takesTest sb_tst
  rw [sb_next_M h.1]
  refine sb_Wbind (sb_Wsome ?_)
  simp only [sb_lit]
  by_cases q1 : sb_nc t n a = sb_n 103
  · rw [if_pos q1]; exact sb_Wpos q1 (eqs (k := 0) (by omega) (by omega) q1)
  rw [if_neg q1]
  refine sb_Wneg q1 ?_
  by_cases q2 : sb_nc t n a = sb_n 99
  · rw [if_pos q2]; exact sb_Wpos q2 (eqs (k := 1) (by omega) (by omega) q2)
  rw [if_neg q2]
  refine sb_Wneg q2 ?_
  by_cases q3 : sb_nc t n a = sb_n 111
  · rw [if_pos q3]; exact sb_Wpos q3 (eqs (k := 2) (by omega) (by omega) q3)
  rw [if_neg q3]
  refine sb_Wneg q3 ?_
  by_cases q4 : sb_nc t n a = sb_n 116
  · rw [if_pos q4]; exact sb_Wpos q4 (lgs (k := 3) (by omega) (by omega) q4)
  rw [if_neg q4]
  refine sb_Wneg q4 ?_
  by_cases q5 : sb_nc t n a = sb_n 100
  · rw [if_pos q5]; exact sb_Wpos q5 (lgs (k := 4) (by omega) (by omega) q5)
  rw [if_neg q5]
  refine sb_Wneg q5 ?_
  by_cases q6 : sb_nc t n a = sb_n 98
  · rw [if_pos q6]; exact sb_Wpos q6 (bxs (k := 5) (by omega) (by omega) q6)
  rw [if_neg q6]
  refine sb_Wneg q6 ?_
  by_cases q7 : sb_nc t n a = sb_n 120
  · rw [if_pos q7]; exact sb_Wpos q7 (bxs (k := 6) (by omega) (by omega) q7)
  rw [if_neg q7]
  refine sb_Wneg q7 ?_
  unfold F_Mo_takesTest_b77
  refine sb_Wneg (by decide) ?_
  exact sb_Wsome ⟨rfl, sb_fr_refl _ _, (fun w => by cases w), fun _ => h25⟩
end MTE
