/-! a clause of the model, and a whole text -/
section GO
variable {t : Nat → Int32} {n a base : Nat} {s : sv_S}
theorem sb_M_wrap {p : sb_CR} {q : Option (Int32 × sv_S)} (h : sb_W q (sb_CM t n base s p)) : sb_W (q.bind fun r => if r.1 = 0 then some ((0 : Int32), r.2) else some ((1 : Int32), r.2)) (sb_CM t n base s p) := by
  refine sb_Wbind2 h (fun r hr => ?_)
  have e := hr.1
  cases hp : p.1 with
  | false => rw [hp] at e; exact sb_Wpos e (sb_Wsome ⟨by rw [hp]; rfl, hr.2⟩)
  | true => rw [hp] at e; exact sb_Wneg (by rw [e]; decide) (sb_Wsome ⟨by rw [hp]; rfl, hr.2⟩)
theorem sb_M_word {i : Nat} {w : List Nat} {q : Option (Int32 × sv_S)} {K : sv_S → Option (Int32 × sv_S)} (hq : sb_W q (fun r => r.1 = sb_b (decide (sb_lk t n a w = w.length)) ∧ sb_MT t n (a + sb_lk t n a w) base r.2 ∧ sb_fr [187025] s r.2)) (hd : sb_wd t n a = sb_w1 t n a i w)
    (k : ∀ u, sb_MT t n (a + w.length) base u → sb_fr sb_ZE s u → sb_W (K u) (sb_CM t n base s (sb_bw t n ((i : Int), a + w.length)))) : sb_W (q.bind fun r => if r.1 = 0 then some ((0 : Int32), r.2) else K r.2) (sb_CM t n base s (sb_cl t n a)) := by
  refine sb_Wbind2 hq (fun r hr => ?_)
  obtain ⟨r1, r2, r3⟩ := hr
  have f : sb_fr sb_ZE s r.2 := sb_fr_mono r3 (by decide)
  unfold sb_cl
  rw [hd]
  unfold sb_w1
  by_cases e : sb_lk t n a w = w.length
  · rw [if_pos e]
    rw [decide_eq_true e] at r1
    refine sb_Wneg (by rw [r1]; decide) (k r.2 (by rw [← e]; exact r2) f)
  · rw [if_neg e]
    rw [decide_eq_false e] at r1
    refine sb_Wpos (by rw [r1]; rfl) (sb_Wsome ?_)
    exact sb_CM_no r2.2.2.2.1 f

theorem sb_M_xsame {u : sv_S} (h : sb_MT t n a base u) (hf : sb_fr sb_ZE s u) : sb_W ((F_Mo_takes (32 : Int32) u).bind fun r8 =>
      if r8.1 = 0 then
        some ((0 : Int32), r8.2)
      else
      (F_Mo_takesE r8.2).bind fun r9 =>
      if r9.1 = 0 then
        some ((0 : Int32), r9.2)
      else
      if sv_ib (0 : Int32) 141 = true then
        if sv_bl (r9.2.1 204 (0 : Int32).toNatClampNeg) = true then
          ss_let (ss_setI r9.2 187 20 (r9.2.1 204 (0 : Int32).toNatClampNeg)) fun s10 =>
          some ((1 : Int32), s10)
        else none
      else none) (sb_CM t n base s (sb_xp t n 1 a)) := by
  have hb := h.1
  unfold sb_xp sb_sp
  simp only [sb_lit]
  rw [sb_Mo_takes h]
  refine sb_Wbind (sb_Wsome ?_)
  by_cases q : sb_nc t n a = sb_n 32
  · have hlt := sb_nc_lt (by omega) q
    rw [if_pos q, if_pos q]
    refine sb_Wneg sb_10 ?_
    have f1 : sb_fr sb_ZE s (ss_setI u 187 25 (sb_n (a + 1))) := sb_fr_set hf rfl
    refine sb_Wbind2 (sb_Mo_exp (sb_MT_at (b := a + 1) h (by omega))) (fun r hr => ?_)
    obtain ⟨r1, r2, r3, r4⟩ := hr
    have f2 := sb_fr_trans f1 r2
    rw [sb_F202 f1] at r3
    rw [r1]
    simp only [sb_b0]
    cases hp : (sb_exp t n (a + 1)).1 with
    | false => exact sb_Wpos rfl (sb_Wsome (sb_CM_no (r4 hp) f2))
    | true =>
      obtain ⟨v, v1, v2, v3⟩ := r3 hp
      refine sb_Wneg (by decide) ?_
      refine sb_Wpos (by decide) ?_
      have e0 : (sb_n 0).toNatClampNeg = 0 := sb_n_ix (by omega)
      refine sb_Wpos (by rw [e0, v3]; exact sb_bl_b) (sb_Wlet ?_)
      rw [e0, v3]
      refine sb_Wsome ?_
      exact ⟨rfl, sb_fr_set (sb_ZE_ZC f2) rfl, fun _ => ⟨sb_MT_fr (L := [187020]) v2 (sb_fr_set (sb_fr_refl _ _) rfl) (by decide), sb_EM_same f2 v1⟩, fun q => by cases q⟩
  · rw [if_neg q, if_neg q]
    exact sb_Wpos rfl (sb_Wsome (sb_CM_no h.2.2.2.1 hf))
theorem sb_M_xexcuse {u : sv_S} (h : sb_MT t n a base u) (hf : sb_fr sb_ZE s u) : sb_W ((F_Mo_takes (32 : Int32) u).bind fun r8 =>
      if r8.1 = 0 then
        some ((0 : Int32), r8.2)
      else
      (F_Mo_takesE r8.2).bind fun r9 =>
      if r9.1 = 0 then
        some ((0 : Int32), r9.2)
      else
      if sv_ib (0 : Int32) 141 = true then
        if sv_bl (r9.2.1 204 (0 : Int32).toNatClampNeg) = true then
          ss_let (ss_setI r9.2 187 21 (r9.2.1 204 (0 : Int32).toNatClampNeg)) fun s10 =>
          some ((1 : Int32), s10)
        else none
      else none) (sb_CM t n base s (sb_xp t n 2 a)) := by
  have hb := h.1
  unfold sb_xp sb_sp
  simp only [sb_lit]
  rw [sb_Mo_takes h]
  refine sb_Wbind (sb_Wsome ?_)
  by_cases q : sb_nc t n a = sb_n 32
  · have hlt := sb_nc_lt (by omega) q
    rw [if_pos q, if_pos q]
    refine sb_Wneg sb_10 ?_
    have f1 : sb_fr sb_ZE s (ss_setI u 187 25 (sb_n (a + 1))) := sb_fr_set hf rfl
    refine sb_Wbind2 (sb_Mo_exp (sb_MT_at (b := a + 1) h (by omega))) (fun r hr => ?_)
    obtain ⟨r1, r2, r3, r4⟩ := hr
    have f2 := sb_fr_trans f1 r2
    rw [sb_F202 f1] at r3
    rw [r1]
    simp only [sb_b0]
    cases hp : (sb_exp t n (a + 1)).1 with
    | false => exact sb_Wpos rfl (sb_Wsome (sb_CM_no (r4 hp) f2))
    | true =>
      obtain ⟨v, v1, v2, v3⟩ := r3 hp
      refine sb_Wneg (by decide) ?_
      refine sb_Wpos (by decide) ?_
      have e0 : (sb_n 0).toNatClampNeg = 0 := sb_n_ix (by omega)
      refine sb_Wpos (by rw [e0, v3]; exact sb_bl_b) (sb_Wlet ?_)
      rw [e0, v3]
      refine sb_Wsome ?_
      exact ⟨rfl, sb_fr_set (sb_ZE_ZC f2) rfl, fun _ => ⟨sb_MT_fr (L := [187021]) v2 (sb_fr_set (sb_fr_refl _ _) rfl) (by decide), sb_EM_excuse f2 v1⟩, fun q => by cases q⟩
  · rw [if_neg q, if_neg q]
    exact sb_Wpos rfl (sb_Wsome (sb_CM_no h.2.2.2.1 hf))
theorem sb_M_by {u : sv_S} {x : Nat} (h : sb_MT t n a base u) (hf : sb_fr sb_ZE s u) : sb_W (ss_let (ss_setI u 187 19 (sb_n x)) fun s6 => some ((1 : Int32), s6)) (sb_CM t n base s (true, a, (0, 6, x, []))) := by
  refine sb_Wlet (sb_Wsome ?_)
  rw [sb_n_i]
  exact ⟨rfl, sb_fr_set (sb_ZE_ZC hf) rfl, fun _ => ⟨sb_MT_fr (L := [187019]) h (sb_fr_set (sb_fr_refl _ _) rfl) (by decide), sb_EM_by hf⟩, fun q => by cases q⟩
theorem sb_M_b38 (h : sb_MT t n a base s) : sb_W (F_Mo_takesClause_b38 (sb_nc t n a) (sb_nc t n (a + 1)) s) (sb_CM t n base s (sb_cl t n a)) := by
  unfold F_Mo_takesClause_b38
  by_cases h98 : sb_nc t n a = sb_n 98
  · refine sb_Wpos h98 ?_
    exact sb_M_word (i := 4) (w := [98, 97, 99, 107]) (sb_Mo_w_back h) (sb_wd_back h98) (fun u hu hf => sb_M_wrap (sb_M_plain (k := 3) (by omega) hu hf))
  refine sb_Wneg h98 ?_
  by_cases h101 : sb_nc t n a = sb_n 101
  · refine sb_Wpos h101 ?_
    by_cases d : sb_nc t n (a + 1) = sb_n 120
    · refine sb_Wpos d ?_
      exact sb_M_word (i := 10) (w := [101, 120, 99, 117, 115, 101]) (sb_Mo_w_excuse h) (sb_wd_excuse h101 d) (fun u hu hf => sb_M_xexcuse hu hf)
    · refine sb_Wneg d ?_
      exact sb_M_word (i := 7) (w := [101, 118, 101, 110]) (K := fun u => ss_let (ss_setI u 187 19 (0 : Int32)) fun s6 => some ((1 : Int32), s6)) (sb_Mo_w_even h) (sb_wd_even h101 d) (fun u hu hf => sb_M_by (x := 0) hu hf)
  refine sb_Wneg h101 ?_
  by_cases h103 : sb_nc t n a = sb_n 103
  · refine sb_Wpos h103 ?_
    by_cases d : sb_nc t n (a + 1) = sb_n 97
    · refine sb_Wpos d ?_
      exact sb_M_word (i := 5) (w := [103, 97, 105, 110]) (sb_Mo_w_gain h) (sb_wd_gain h103 d) (fun u hu hf => sb_M_wrap (sb_M_plain (k := 4) (by omega) hu hf))
    · refine sb_Wneg d ?_
      exact sb_M_word (i := 0) (w := [103, 111, 111, 100]) (sb_Mo_w_good h) (sb_wd_good h103 d) (fun u hu hf => sb_M_wrap (sb_M_good hu hf))
  refine sb_Wneg h103 ?_
  by_cases h109 : sb_nc t n a = sb_n 109
  · refine sb_Wpos h109 ?_
    by_cases d : sb_nc t n (a + 1) = sb_n 105
    · refine sb_Wpos d ?_
      exact sb_M_word (i := 6) (w := [109, 105, 108, 101, 115]) (K := fun u => ss_let (ss_setI u 187 19 (1 : Int32)) fun s6 => some ((1 : Int32), s6)) (sb_Mo_w_miles h) (sb_wd_miles h109 d) (fun u hu hf => sb_M_by (x := 1) hu hf)
    · refine sb_Wneg d ?_
      exact sb_M_word (i := 8) (w := [109, 111, 115, 116]) (sb_Mo_w_most h) (sb_wd_most h109 d) (fun u hu hf => sb_M_wrap (sb_M_most hu hf))
  refine sb_Wneg h109 ?_
  by_cases h110 : sb_nc t n a = sb_n 110
  · refine sb_Wpos h110 ?_
    exact sb_M_word (i := 3) (w := [110, 111, 116, 105, 99, 101]) (sb_Mo_w_notice h) (sb_wd_notice h110) (fun u hu hf => sb_M_wrap (sb_M_plain (k := 2) (by omega) hu hf))
  refine sb_Wneg h110 ?_
  by_cases h115 : sb_nc t n a = sb_n 115
  · refine sb_Wpos h115 ?_
    by_cases d : sb_nc t n (a + 1) = sb_n 97
    · refine sb_Wpos d ?_
      exact sb_M_word (i := 9) (w := [115, 97, 109, 101]) (sb_Mo_w_same h) (sb_wd_same h115 d) (fun u hu hf => sb_M_xsame hu hf)
    · refine sb_Wneg d ?_
      exact sb_M_word (i := 2) (w := [115, 109, 97, 108, 108]) (sb_Mo_w_small h) (sb_wd_small h115 d) (fun u hu hf => sb_M_wrap (sb_M_plain (k := 1) (by omega) hu hf))
  refine sb_Wneg h115 ?_
  by_cases h116 : sb_nc t n a = sb_n 116
  · refine sb_Wpos h116 ?_
    exact sb_M_word (i := 1) (w := [116, 101, 114, 109]) (sb_Mo_w_term h) (sb_wd_term h116) (fun u hu hf => sb_M_wrap (sb_M_plain (k := 0) (by omega) hu hf))
  refine sb_Wneg h116 ?_
  refine sb_Wsome ?_
  unfold sb_cl
  rw [sb_wd_none h98 h101 h103 h109 h110 h115 h116]
  exact sb_CM_no h.2.2.2.1 (sb_fr_refl _ _)
theorem sb_M_clause (h : sb_MT t n a base s) : sb_W (F_Mo_takesClause s) (sb_CM t n base s (sb_cl t n a)) := by
  have hb := h.1
  unfold F_Mo_takesClause
  rw [sb_next_M h, sb_m1]
  refine sb_Wbind (sb_Wsome ?_)
  simp (disch := omega) only [sb_lit, sb_n_add, sb_n_mul, sb_n_ix, sb_n_lt, sb_n_le, sb_n_eq, sb_ib_n, h.2.1, h.2.2.1, h.2.2.2.1]
  refine sb_Wif (fun q => ?_) (fun q => ?_)
  · have e : sb_nc t n (a + 1) = sb_i (-1) := by unfold sb_nc; rw [if_neg (by omega)]
    rw [← e]; exact sb_M_b38 h
  · rw [if_pos (by omega), Nat.add_assoc, h.2.2.2.2 (a + 1) (by omega)]
    have e : sb_nc t n (a + 1) = t (a + 1) := by unfold sb_nc; rw [if_pos (by omega)]
    rw [← e]; exact sb_M_b38 h
/-- a whole text: clauses, at most k of them -/
def sb_cls (t : Nat → Int32) (n : Nat) : Nat → Nat → Bool × Nat × List sb_EF
  | 0, a => (false, a, [])
  | k + 1, a =>
    if (sb_cl t n a).1 = true then
      (if (sb_cl t n a).2.1 = n then (true, n, [(sb_cl t n a).2.2])
       else if k = 0 then (false, (sb_cl t n a).2.1, [])
       else if sb_nc t n (sb_cl t n a).2.1 = sb_n 59 then ((sb_cls t n k ((sb_cl t n a).2.1 + 1)).1, (sb_cls t n k ((sb_cl t n a).2.1 + 1)).2.1, (sb_cl t n a).2.2 :: (sb_cls t n k ((sb_cl t n a).2.1 + 1)).2.2)
       else (false, (sb_cl t n a).2.1, []))
    else (false, (sb_cl t n a).2.1, [])
def sb_apl : List sb_EF → (Nat → Int) → (Nat → Int)
  | [], V => V
  | e :: l, V => sb_apl l (sb_ap e V)
def sb_tgl (F : Nat → Int32) (tag : Nat) : List sb_EF → Bool → Bool
  | [], b => b
  | e :: l, b => sb_tgl F tag l (if e.1 = tag then sb_hd F e.2.2.2 b else b)
def sb_EL (s u : sv_S) (l : List sb_EF) : Prop := ∀ V sm ex, sb_MV V sm ex s → sb_MV (sb_apl l V) (sb_tgl (s.1 202) 1 l sm) (sb_tgl (s.1 202) 2 l ex) u
theorem sb_F202C {u : sv_S} (h : sb_fr sb_ZC s u) : u.1 202 = s.1 202 := by funext k; exact h.1 202 k rfl
theorem sb_M_goes : ∀ (k f c a : Nat) (s : sv_S), c + k = 10 → 1 ≤ k → k < f → sb_MT t n a base s → sb_W (F_Mo_goes_b26 f (sb_n c) s) (fun r => r.1 = sb_b (sb_cls t n k a).1 ∧ sb_fr sb_ZC s r.2 ∧ ((sb_cls t n k a).1 = true → sb_EL s r.2 (sb_cls t n k a).2.2) ∧ r.2.1 187 25 = sb_n (sb_cls t n k a).2.1) := by
  intro k
  induction k with
  | zero => intro f c a s _ h; omega
  | succ k ih =>
    intro f c a s hc hk hf h
    obtain ⟨f, rfl⟩ : ∃ g, f = g + 1 := ⟨f - 1, by omega⟩
    simp only [F_Mo_goes_b26]
    refine sb_Wbind2 (sb_M_clause h) (fun r hr => ?_)
    generalize hP : sb_cls t n (k + 1) a = P
    simp only [sb_cls] at hP
    obtain ⟨r1, r2, r3, r4⟩ := hr
    simp only [sb_lit]
    rw [r1]
    simp only [sb_b0]
    cases hp : (sb_cl t n a).1 with
    | false =>
      rw [hp, if_neg (by decide)] at hP
      rw [← hP]
      exact sb_Wpos rfl (sb_Wsome ⟨rfl, r2, fun q => (by cases q), r4 hp⟩)
    | true =>
      rw [hp, if_pos rfl] at hP
      obtain ⟨m1, m2⟩ := r3 hp
      have mb := m1.1
      refine sb_Wneg (by decide) (sb_Wlet ?_)
      rw [m1.2.2.2.1, m1.2.2.1, sb_n_add]
      by_cases q : (sb_cl t n a).2.1 = n
      · rw [if_pos q] at hP
        rw [← hP]
        refine sb_Wpos (by rw [q]) (sb_Wsome ⟨rfl, r2, fun _ V sm ex hV => m2 V sm ex hV, by rw [m1.2.2.2.1, q]⟩)
      · rw [if_neg q] at hP
        refine sb_Wneg (by rw [sb_n_eq (by omega) (by omega)]; exact q) ?_
        by_cases k0 : k = 0
        · rw [if_pos k0] at hP
          rw [← hP]
          exact sb_Wpos (by rw [show c + 1 = 10 by omega]) (sb_Wsome ⟨rfl, r2, fun q => (by cases q), m1.2.2.2.1⟩)
        · rw [if_neg k0] at hP
          refine sb_Wneg (by rw [sb_n_eq (by omega) (by omega)]; omega) ?_
          rw [sb_Mo_takes m1]
          refine sb_Wbind (sb_Wsome ?_)
          by_cases q2 : sb_nc t n (sb_cl t n a).2.1 = sb_n 59
          · have hlt := sb_nc_lt (by omega) q2
            rw [if_pos q2] at hP
            rw [if_pos q2]
            refine sb_Wneg sb_10 ?_
            have fz : sb_fr sb_ZC s (ss_setI r.2 187 25 (sb_n ((sb_cl t n a).2.1 + 1))) := sb_fr_set r2 rfl
            refine sb_Wmono (ih f (c + 1) ((sb_cl t n a).2.1 + 1) _ (by omega) (by omega) (by omega) (sb_MT_at m1 (by omega))) (fun v hv => ?_)
            obtain ⟨v1, v2, v3, v4⟩ := hv
            rw [← hP]
            refine ⟨v1, sb_fr_trans fz v2, fun w V sm ex hV => ?_, v4⟩
            have F1 := sb_F202C fz
            have := v3 w _ _ _ (sb_MV_fr (m2 V sm ex hV) (sb_fr_set (sb_fr_refl _ _) rfl))
            rw [F1] at this
            exact this
          · rw [if_neg q2] at hP
            rw [if_neg q2, ← hP]
            exact sb_Wpos rfl (sb_Wsome ⟨rfl, r2, fun q => (by cases q), m1.2.2.2.1⟩)
end GO
