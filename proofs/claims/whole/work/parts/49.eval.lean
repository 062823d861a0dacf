/-! what steps say of facts -/
def zb_pss (F : Nat → Int32) (sort v : Int) : Bool :=
  if sort = 0 then decide ((F 0).toInt = v) else if sort = 1 then decide ((F 1).toInt = v) else if sort = 2 then decide ((F 2).toInt = v)
  else if sort = 3 then decide ((F 3).toInt < v) else if sort = 4 then decide (v < (F 3).toInt) else if sort = 5 then decide ((F 4).toInt < v) else if sort = 6 then decide (v < (F 4).toInt)
  else if sort = 7 then decide ((F 5).toInt = 1) else decide ((F 6).toInt = 1)
def zb_e1 (F : Nat → Int32) (c : Int32) (st : List Bool) : List Bool :=
  if c.toInt / 10000 = 9 then (match st with | x :: r => (!x) :: r | [] => [])
  else if c.toInt / 10000 = 10 then (match st with | y :: x :: r => (x && y) :: r | r => r)
  else if c.toInt / 10000 = 11 then (match st with | y :: x :: r => (x || y) :: r | r => r)
  else zb_pss F (c.toInt / 10000) (c.toInt % 10000) :: st
def zb_ev (F : Nat → Int32) : List Int32 → List Bool → List Bool
  | [], st => st
  | c :: l, st => zb_ev F l (zb_e1 F c st)
def zb_val (F : Nat → Int32) (l : List Int32) (v : Bool) : Prop := ∀ st, zb_ev F l st = v :: st
/-- how deep it goes -/
def zb_mx : List Int32 → Nat → Nat
  | [], d => d
  | c :: l, d => max d (zb_mx l (if c.toInt / 10000 = 9 then d else if c.toInt / 10000 = 10 ∨ c.toInt / 10000 = 11 then d - 1 else d + 1))
section EV
variable {F : Nat → Int32} {l l' : List Int32} {v w : Bool}
theorem zb_ev_app : ∀ (l l' : List Int32) (st : List Bool), zb_ev F (l ++ l') st = zb_ev F l' (zb_ev F l st)
  | [], _, _ => rfl
  | c :: l, l', st => zb_ev_app l l' _
theorem zb_val_not (h : zb_val F l v) : zb_val F (l ++ [zb_i 90000]) (!v) := by
  intro st; rw [zb_ev_app, h st]; simp only [zb_ev, zb_e1]; rw [zb_ti (by omega) (by omega)]; rfl
theorem zb_val_and (h : zb_val F l v) (h' : zb_val F l' w) : zb_val F (l ++ l' ++ [zb_i 100000]) (v && w) := by
  intro st; rw [zb_ev_app, zb_ev_app, h st, h']; simp only [zb_ev, zb_e1]; rw [zb_ti (by omega) (by omega)]; rfl
theorem zb_val_or (h : zb_val F l v) (h' : zb_val F l' w) : zb_val F (l ++ l' ++ [zb_i 110000]) (v || w) := by
  intro st; rw [zb_ev_app, zb_ev_app, h st, h']; simp only [zb_ev, zb_e1]; rw [zb_ti (by omega) (by omega)]; rfl
theorem zb_val_test {k : Int} {x : Int} (hk : 0 ≤ k) (hk8 : k ≤ 8) (hx : 0 ≤ x) (hx9 : x ≤ 9999) : zb_val F [zb_i (k * 10000 + x)] (zb_pss F k x) := by
  intro st
  simp only [zb_ev, zb_e1]
  rw [zb_ti (by omega) (by omega)]
  have e1 : (k * 10000 + x) / 10000 = k := by omega
  have e2 : (k * 10000 + x) % 10000 = x := by omega
  rw [e1, e2, if_neg (by omega), if_neg (by omega), if_neg (by omega)]
end EV
section MTE
variable {t : Nat → Int32} {n a base : Nat} {s : sv_S} {W : List Int32} {P : List Bool}
theorem zb_ME_num {b : Nat} {u : sv_S} (h : zb_ME t n a base W P s) (hf : zb_fr [187025, 187026] s u) (hM : zb_MT t n b base u) (hab : a ≤ b) : zb_ME t n b base W P u := by
  refine ⟨hM, ⟨by have := h.2.1; omega, by have := h.2.1; omega⟩, ?_, ?_, ?_, ?_, ?_⟩
  · rw [hf.1 187 29 rfl]; exact h.2.2.1
  · exact zb_sk_up _ (fun i _ => hf.1 203 i rfl) h.2.2.2.1
  · rw [hf.1 187 30 rfl]; exact h.2.2.2.2.1
  · exact zb_skb_up _ (fun i _ => hf.1 204 i rfl) h.2.2.2.2.2.1
  · rw [hf.1 187 31 rfl]; exact h.2.2.2.2.2.2
/-- what a test leaves -/
def zb_TP (t : Nat → Int32) (n base : Nat) (W : List Int32) (P : List Bool) (s : sv_S) (p : zb_PR) (r : Int32 × sv_S) : Prop :=
  r.1 = zb_b p.1 ∧ zb_fr zb_ZE s r.2 ∧ (p.1 = true → ∃ v, zb_val (s.1 202) p.2.2 v ∧ zb_ME t n p.2.1 base (zb_pn W v).2 ((zb_pn W v).1 :: P) r.2) ∧ (p.1 = false → r.2.1 187 25 = zb_n p.2.1)
theorem zb_push_TP {u : sv_S} {c : Bool} {p : zb_PR} (h : zb_ME t n p.2.1 base W P u) (hP : P.length < p.2.1) (hf : zb_fr zb_ZE s u) (hv : zb_val (s.1 202) p.2.2 c) (hp : p.1 = true) : zb_W ((F_Mo_push (zb_b c) u).bind fun r => some ((1 : Int32), r)) (zb_TP t n base W P s p) := by
  have hb := h.1.1
  have hW := h.2.1.1
  unfold F_Mo_push
  refine zb_Wbind2 (zb_Mo_push (s := s) W ss_F c u (by unfold ss_F; omega) hP h hf) (fun r hr => ?_)
  exact zb_Wsome ⟨by rw [hp]; rfl, hr.2, fun _ => ⟨c, hv, hr.1⟩, fun q => by rw [hp] at q; cases q⟩
theorem zb_Mo_tnu {u : sv_S} {k : Nat} {o : Int32} {sort : Int} (h : zb_ME t n a base W P u) (hf : zb_fr zb_ZE s u) (ha : a + 1 ≤ n) (hP : P.length < a) (hs0 : 0 ≤ sort) (hs8 : sort ≤ 6) (hk : k ≤ 4)
    (ho : (o = zb_n 61 ∧ k ≤ 2 ∧ sort = k) ∨ (o = zb_n 60 ∧ ((k = 3 ∧ sort = 3) ∨ (k = 4 ∧ sort = 5))) ∨ (o = zb_n 62 ∧ ((k = 3 ∧ sort = 4) ∨ (k = 4 ∧ sort = 6)))) : zb_W (F_Mo_takesTest_b153 (zb_n k) o u) (zb_TP t n base W P s (zb_tnu t n sort (a + 1))) := by
  have hb := h.1.1
  unfold F_Mo_takesTest_b153
  refine zb_Wlet ?_
  rw [h.1.2.2.2.1]
  simp only [zb_lit]
  rw [zb_n_add]
  have h1 := zb_ME_at (b := a + 1) h (by omega) (by omega)
  refine zb_Wbind2 (zb_Mo_takesNumber h1.1) (fun r hr => ?_)
  obtain ⟨r1, r2, r3, r4⟩ := hr
  have f2 : zb_fr zb_ZE s r.2 := zb_fr_trans (zb_fr_set hf rfl) (zb_fr_mono r2 (by decide))
  rw [r1]
  simp only [zb_b0]
  unfold zb_no at r3 r4
  unfold zb_tnu
  by_cases q : zb_dg (zb_nc t n (a + 1)) = true
  · rw [if_pos q] at r3 r4
    rw [if_pos q, if_neg (by rw [q]; decide)]
    have r4 := r4 q
    have g := zb_num4 (t := t) (n := n) (a := a + 1) (by omega)
    have m3 := zb_ME_num h1 r2 r3 (by omega)
    have F2 : ∀ j, r.2.1 202 j = s.1 202 j := fun j => f2.1 202 j rfl
    generalize (zb_num t n 4 (a + 1) 0).1 = x at *
    generalize (zb_num t n 4 (a + 1) 0).2 = b at *
    have vt : zb_val (s.1 202) [zb_i (sort * 10000 + x)] (zb_pss (s.1 202) sort x) := zb_val_test hs0 (by omega) g.2.2.1 g.2.2.2
    have T : ∀ c : Bool, c = zb_pss (s.1 202) sort x → zb_W ((F_Mo_push (zb_b c) r.2).bind fun r => some ((1 : Int32), r)) (zb_TP t n base W P s (true, b, [zb_i (sort * 10000 + x)])) := fun c hc => zb_push_TP (p := (true, b, [zb_i (sort * 10000 + x)])) m3 (show P.length < b by omega) f2 (by rw [hc]; exact vt) rfl
    have ix : (zb_n k).toNatClampNeg = k := zb_n_ix (by omega)
    have ti : (zb_i x).toInt = x := zb_ti (by omega) (by omega)
    have sp : ∀ y : Int32, (y = zb_i x) = (y.toInt = x) := fun y => by rw [← Int32.toInt_inj, ti]
    have sl : ∀ y : Int32, (zb_i x ≤ y) = (x ≤ y.toInt) := fun y => by rw [Int32.le_iff_toInt_le, ti]
    have sg : ∀ y : Int32, (y ≤ zb_i x) = (y.toInt ≤ x) := fun y => by rw [Int32.le_iff_toInt_le, ti]
    have T1 := T true
    have T0 := T false
    rcases ho with ⟨rfl, k2, rfl⟩ | ⟨rfl, ho⟩ | ⟨rfl, ho⟩
    · refine zb_Wpos rfl ?_
      refine zb_Wpos (by first | omega | (simp (disch := omega) only [zb_lit, zb_n_add, zb_n_mul, zb_n_ix, zb_n_lt, zb_n_le, zb_n_eq, zb_ib_n] <;> omega)) ?_
      rw [ix, F2, r4]
      simp only [sp]
      have hps : zb_pss (s.1 202) k x = decide ((s.1 202 k).toInt = x) := by
        have : k = 0 ∨ k = 1 ∨ k = 2 := by omega
        rcases this with rfl | rfl | rfl <;> rfl
      rw [hps] at T1 T0
      refine zb_Wif (fun w => T1 (by simp [w])) (fun w => T0 (by simp [w]))
    · refine zb_Wneg (by decide) ?_
      refine zb_Wpos rfl ?_
      refine zb_Wpos (by first | omega | (simp (disch := omega) only [zb_lit, zb_n_add, zb_n_mul, zb_n_ix, zb_n_lt, zb_n_le, zb_n_eq, zb_ib_n] <;> omega)) ?_
      rw [ix, F2, r4]
      simp only [sl]
      have hps : zb_pss (s.1 202) sort x = decide ((s.1 202 k).toInt < x) := by
        rcases ho with ⟨rfl, rfl⟩ | ⟨rfl, rfl⟩ <;> rfl
      rw [hps] at T1 T0
      refine zb_Wif (fun w => T0 (by simp; omega)) (fun w => T1 (by simp; omega))
    · refine zb_Wneg (by decide) ?_
      refine zb_Wneg (by decide) ?_
      refine zb_Wpos (by first | omega | (simp (disch := omega) only [zb_lit, zb_n_add, zb_n_mul, zb_n_ix, zb_n_lt, zb_n_le, zb_n_eq, zb_ib_n] <;> omega)) ?_
      rw [ix, F2, r4]
      simp only [sg]
      have hps : zb_pss (s.1 202) sort x = decide (x < (s.1 202 k).toInt) := by
        rcases ho with ⟨rfl, rfl⟩ | ⟨rfl, rfl⟩ <;> rfl
      rw [hps] at T1 T0
      refine zb_Wif (fun w => T0 (by simp; omega)) (fun w => T1 (by simp; omega))
  · have q' : zb_dg (zb_nc t n (a + 1)) = false := by simpa using q
    rw [if_neg q] at r3
    rw [if_neg q, if_pos q']
    exact zb_Wsome ⟨rfl, f2, (fun w => by cases w), fun _ => r3.2.2.2.1⟩
theorem zb_Mo_test (h : zb_ME t n a base W P s) : zb_W (F_Mo_takesTest s) (zb_TP t n base W P s (zb_tst t n a)) := by
  have hb := h.1.1
  have hP := h.2.1.2
  have h25 := h.1.2.2.2.1
  have f1 : ∀ v, zb_fr zb_ZE s (ss_setI s 187 25 v) := fun v => zb_fr_set (zb_fr_refl _ _) rfl
  have eqs : ∀ {c k : Nat}, c ≤ 127 → k ≤ 2 → zb_nc t n a = zb_n c → zb_W (F_Mo_takesTest_b77 (zb_n k) s) (zb_TP t n base W P s (if zb_nc t n (a + 1) = zb_n 61 then zb_tnu t n k (a + 2) else (false, a + 1, []))) := by
    intro c k hc hk e
    have hlt := zb_nc_lt hc e
    have h1 := zb_ME_at (b := a + 1) h (by omega) (by omega)
    unfold F_Mo_takesTest_b77
    refine zb_Wpos (by first | omega | (simp (disch := omega) only [zb_lit, zb_n_add, zb_n_mul, zb_n_ix, zb_n_lt, zb_n_le, zb_n_eq, zb_ib_n] <;> omega)) ?_
    refine zb_Wlet ?_
    rw [h25]
    simp only [zb_lit]
    rw [zb_n_add]
    refine zb_Wpos (by first | omega | (simp (disch := omega) only [zb_lit, zb_n_add, zb_n_mul, zb_n_ix, zb_n_lt, zb_n_le, zb_n_eq, zb_ib_n] <;> omega)) ?_
    rw [zb_next_M h1.1]
    refine zb_Wbind (zb_Wsome ?_)
    refine zb_Wneg (by first | omega | (simp (disch := omega) only [zb_lit, zb_n_add, zb_n_mul, zb_n_ix, zb_n_lt, zb_n_le, zb_n_eq, zb_ib_n] <;> omega)) ?_
    by_cases q : zb_nc t n (a + 1) = zb_n 61
    · rw [if_pos q]
      refine zb_Wpos q ?_
      rw [q]
      have hlt2 := zb_nc_lt (by omega) q
      exact zb_Mo_tnu h1 (f1 _) (by omega) (by omega) (by omega) (by omega) (by omega) (Or.inl ⟨rfl, hk, rfl⟩)
    · rw [if_neg q]
      refine zb_Wneg q ?_
      exact zb_Wsome ⟨rfl, f1 _, (fun w => by cases w), fun _ => zb_set_eq⟩
  have lgs : ∀ {c k : Nat} {s1 s2 : Int}, c ≤ 127 → ((k = 3 ∧ s1 = 3 ∧ s2 = 4) ∨ (k = 4 ∧ s1 = 5 ∧ s2 = 6)) → zb_nc t n a = zb_n c → zb_W (F_Mo_takesTest_b77 (zb_n k) s) (zb_TP t n base W P s (if zb_nc t n (a + 1) = zb_n 60 then zb_tnu t n s1 (a + 2) else if zb_nc t n (a + 1) = zb_n 62 then zb_tnu t n s2 (a + 2) else (false, a + 1, []))) := by
    intro c k s1 s2 hc hk e
    have hlt := zb_nc_lt hc e
    have h1 := zb_ME_at (b := a + 1) h (by omega) (by omega)
    unfold F_Mo_takesTest_b77
    refine zb_Wpos (by first | omega | (simp (disch := omega) only [zb_lit, zb_n_add, zb_n_mul, zb_n_ix, zb_n_lt, zb_n_le, zb_n_eq, zb_ib_n] <;> omega)) ?_
    refine zb_Wlet ?_
    rw [h25]
    simp only [zb_lit]
    rw [zb_n_add]
    refine zb_Wpos (by first | omega | (simp (disch := omega) only [zb_lit, zb_n_add, zb_n_mul, zb_n_ix, zb_n_lt, zb_n_le, zb_n_eq, zb_ib_n] <;> omega)) ?_
    rw [zb_next_M h1.1]
    refine zb_Wbind (zb_Wsome ?_)
    refine zb_Wpos (by first | omega | (simp (disch := omega) only [zb_lit, zb_n_add, zb_n_mul, zb_n_ix, zb_n_lt, zb_n_le, zb_n_eq, zb_ib_n] <;> omega)) ?_
    by_cases q : zb_nc t n (a + 1) = zb_n 60
    · rw [if_pos q]
      refine zb_Wpos q ?_
      rw [q]
      have hlt2 := zb_nc_lt (by omega) q
      exact zb_Mo_tnu h1 (f1 _) (by omega) (by omega) (by omega) (by omega) (by omega) (Or.inr (Or.inl ⟨rfl, by omega⟩))
    · rw [if_neg q]
      refine zb_Wneg q ?_
      by_cases q2 : zb_nc t n (a + 1) = zb_n 62
      · rw [if_pos q2]
        refine zb_Wpos q2 ?_
        rw [q2]
        have hlt2 := zb_nc_lt (by omega) q2
        exact zb_Mo_tnu h1 (f1 _) (by omega) (by omega) (by omega) (by omega) (by omega) (Or.inr (Or.inr ⟨rfl, by omega⟩))
      · rw [if_neg q2]
        refine zb_Wneg q2 ?_
        exact zb_Wsome ⟨rfl, f1 _, (fun w => by cases w), fun _ => zb_set_eq⟩
  have bxs : ∀ {c k : Nat}, c ≤ 127 → (k = 5 ∨ k = 6) → zb_nc t n a = zb_n c → zb_W (F_Mo_takesTest_b77 (zb_n k) s) (zb_TP t n base W P s (true, a + 1, [zb_i (((k : Int) + 2) * 10000 + 0)])) := by
    intro c k hc hk e
    have hlt := zb_nc_lt hc e
    have h1 := zb_ME_at (b := a + 1) h (by omega) (by omega)
    unfold F_Mo_takesTest_b77
    refine zb_Wpos (by first | omega | (simp (disch := omega) only [zb_lit, zb_n_add, zb_n_mul, zb_n_ix, zb_n_lt, zb_n_le, zb_n_eq, zb_ib_n] <;> omega)) ?_
    refine zb_Wlet ?_
    rw [h25]
    simp only [zb_lit]
    rw [zb_n_add]
    refine zb_Wneg (by first | omega | (simp (disch := omega) only [zb_lit, zb_n_add, zb_n_mul, zb_n_ix, zb_n_lt, zb_n_le, zb_n_eq, zb_ib_n] <;> omega)) ?_
    refine zb_Wpos (by first | omega | (simp (disch := omega) only [zb_lit, zb_n_add, zb_n_mul, zb_n_ix, zb_n_lt, zb_n_le, zb_n_eq, zb_ib_n] <;> omega)) ?_
    rw [zb_n_ix (by omega)]
    have e2 : (ss_setI s 187 25 (zb_n (a + 1))).1 202 k = s.1 202 k := zb_set_ne (by omega)
    have vt : zb_val (s.1 202) [zb_i (((k : Int) + 2) * 10000 + 0)] (zb_pss (s.1 202) ((k : Int) + 2) 0) := zb_val_test (by omega) (by omega) (by omega) (by omega)
    have hps : zb_pss (s.1 202) ((k : Int) + 2) 0 = decide ((s.1 202 k).toInt = 1) := by
      rcases hk with rfl | rfl <;> rfl
    rw [hps] at vt
    have z : (s.1 202 k = zb_n 1) = ((s.1 202 k).toInt = 1) := zb_c_eqn (by omega)
    simp only [e2, z]
    refine zb_Wif (fun w => ?_) (fun w => ?_)
    · refine zb_push_TP (c := true) (p := (true, a + 1, [zb_i (((k : Int) + 2) * 10000 + 0)])) h1 (show P.length < a + 1 by omega) (f1 _) ?_ rfl
      rw [decide_eq_true w] at vt; exact vt
    · refine zb_push_TP (c := false) (p := (true, a + 1, [zb_i (((k : Int) + 2) * 10000 + 0)])) h1 (show P.length < a + 1 by omega) (f1 _) ?_ rfl
      rw [decide_eq_false w] at vt; exact vt
  unfold F_Mo_takesTest zb_tst
  rw [zb_next_M h.1]
  refine zb_Wbind (zb_Wsome ?_)
  simp only [zb_lit]
  by_cases q1 : zb_nc t n a = zb_n 103
  · rw [if_pos q1]; exact zb_Wpos q1 (eqs (k := 0) (by omega) (by omega) q1)
  rw [if_neg q1]
  refine zb_Wneg q1 ?_
  by_cases q2 : zb_nc t n a = zb_n 99
  · rw [if_pos q2]; exact zb_Wpos q2 (eqs (k := 1) (by omega) (by omega) q2)
  rw [if_neg q2]
  refine zb_Wneg q2 ?_
  by_cases q3 : zb_nc t n a = zb_n 111
  · rw [if_pos q3]; exact zb_Wpos q3 (eqs (k := 2) (by omega) (by omega) q3)
  rw [if_neg q3]
  refine zb_Wneg q3 ?_
  by_cases q4 : zb_nc t n a = zb_n 116
  · rw [if_pos q4]; exact zb_Wpos q4 (lgs (k := 3) (by omega) (by omega) q4)
  rw [if_neg q4]
  refine zb_Wneg q4 ?_
  by_cases q5 : zb_nc t n a = zb_n 100
  · rw [if_pos q5]; exact zb_Wpos q5 (lgs (k := 4) (by omega) (by omega) q5)
  rw [if_neg q5]
  refine zb_Wneg q5 ?_
  by_cases q6 : zb_nc t n a = zb_n 98
  · rw [if_pos q6]; exact zb_Wpos q6 (bxs (k := 5) (by omega) (by omega) q6)
  rw [if_neg q6]
  refine zb_Wneg q6 ?_
  by_cases q7 : zb_nc t n a = zb_n 120
  · rw [if_pos q7]; exact zb_Wpos q7 (bxs (k := 6) (by omega) (by omega) q7)
  rw [if_neg q7]
  refine zb_Wneg q7 ?_
  unfold F_Mo_takesTest_b77
  refine zb_Wneg (by decide) ?_
  exact zb_Wsome ⟨rfl, zb_fr_refl _ _, (fun w => by cases w), fun _ => h25⟩
end MTE
