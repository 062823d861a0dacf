/-! a clause of the model, and a whole text -/
section GO
variable {t : Nat → Int32} {n a base : Nat} {s : sv_S}
theorem zb_M_wrap {p : zb_CR} {q : Option (Int32 × sv_S)} (h : zb_W q (zb_CM t n base s p)) : zb_W (q.bind fun r => if r.1 = 0 then some ((0 : Int32), r.2) else some ((1 : Int32), r.2)) (zb_CM t n base s p) := by
  refine zb_Wbind2 h (fun r hr => ?_)
  have e := hr.1
  cases hp : p.1 with
  | false => rw [hp] at e; exact zb_Wpos e (zb_Wsome ⟨by rw [hp]; rfl, hr.2⟩)
  | true => rw [hp] at e; exact zb_Wneg (by rw [e]; decide) (zb_Wsome ⟨by rw [hp]; rfl, hr.2⟩)
theorem zb_M_word {i : Nat} {w : List Nat} {q : Option (Int32 × sv_S)} {K : sv_S → Option (Int32 × sv_S)} (hq : zb_W q (fun r => r.1 = zb_b (decide (zb_lk t n a w = w.length)) ∧ zb_MT t n (a + zb_lk t n a w) base r.2 ∧ zb_fr [187025] s r.2)) (hd : zb_wd t n a = zb_w1 t n a i w)
    (k : ∀ u, zb_MT t n (a + w.length) base u → zb_fr zb_ZE s u → zb_W (K u) (zb_CM t n base s (zb_bw t n ((i : Int), a + w.length)))) : zb_W (q.bind fun r => if r.1 = 0 then some ((0 : Int32), r.2) else K r.2) (zb_CM t n base s (zb_cl t n a)) := by
  refine zb_Wbind2 hq (fun r hr => ?_)
  obtain ⟨r1, r2, r3⟩ := hr
  have f : zb_fr zb_ZE s r.2 := zb_fr_mono r3 (by decide)
  unfold zb_cl
  rw [hd]
  unfold zb_w1
  by_cases e : zb_lk t n a w = w.length
  · rw [if_pos e]
    rw [decide_eq_true e] at r1
    refine zb_Wneg (by rw [r1]; decide) (k r.2 (by rw [← e]; exact r2) f)
  · rw [if_neg e]
    rw [decide_eq_false e] at r1
    refine zb_Wpos (by rw [r1]; rfl) (zb_Wsome ?_)
    exact zb_CM_no r2.2.2.2.1 f

theorem zb_M_xsame {u : sv_S} (h : zb_MT t n a base u) (hf : zb_fr zb_ZE s u) : zb_W ((F_Mo_takes (32 : Int32) u).bind fun r8 =>
      if r8.1 = 0 then
        some ((0 : Int32), r8.2)
      else
      (F_Mo_takesE r8.2).bind fun r9 =>
      if r9.1 = 0 then
        some ((0 : Int32), r9.2)
      else
      if sv_ib (0 : Int32) 141 = true then
        if sv_bl (r9.2.1 204 (0 : Int32).toNatClampNeg) = true then
          ss_let (ss_setI r9.2 187 20 (r9.2.1 204 (0 : Int32).toNatClampNeg)) fun s10 =>
          some ((1 : Int32), s10)
        else none
      else none) (zb_CM t n base s (zb_xp t n 1 a)) := by
  have hb := h.1
  unfold zb_xp zb_sp
  simp only [zb_lit]
  rw [zb_Mo_takes h]
  refine zb_Wbind (zb_Wsome ?_)
  by_cases q : zb_nc t n a = zb_n 32
  · have hlt := zb_nc_lt (by omega) q
    rw [if_pos q, if_pos q]
    refine zb_Wneg zb_10 ?_
    have f1 : zb_fr zb_ZE s (ss_setI u 187 25 (zb_n (a + 1))) := zb_fr_set hf rfl
    refine zb_Wbind2 (zb_Mo_exp (zb_MT_at (b := a + 1) h (by omega))) (fun r hr => ?_)
    obtain ⟨r1, r2, r3, r4⟩ := hr
    have f2 := zb_fr_trans f1 r2
    rw [zb_F202 f1] at r3
    rw [r1]
    simp only [zb_b0]
    cases hp : (zb_exp t n (a + 1)).1 with
    | false => exact zb_Wpos rfl (zb_Wsome (zb_CM_no (r4 hp) f2))
    | true =>
      obtain ⟨v, v1, v2, v3⟩ := r3 hp
      refine zb_Wneg (by decide) ?_
      refine zb_Wpos (by decide) ?_
      have e0 : (zb_n 0).toNatClampNeg = 0 := zb_n_ix (by omega)
      refine zb_Wpos (by rw [e0, v3]; exact zb_bl_b) (zb_Wlet ?_)
      rw [e0, v3]
      refine zb_Wsome ?_
      exact ⟨rfl, zb_fr_set (zb_ZE_ZC f2) rfl, fun _ => ⟨zb_MT_fr (L := [187020]) v2 (zb_fr_set (zb_fr_refl _ _) rfl) (by decide), zb_EM_same f2 v1⟩, fun q => by cases q⟩
  · rw [if_neg q, if_neg q]
    exact zb_Wpos rfl (zb_Wsome (zb_CM_no h.2.2.2.1 hf))
theorem zb_M_xexcuse {u : sv_S} (h : zb_MT t n a base u) (hf : zb_fr zb_ZE s u) : zb_W ((F_Mo_takes (32 : Int32) u).bind fun r8 =>
      if r8.1 = 0 then
        some ((0 : Int32), r8.2)
      else
      (F_Mo_takesE r8.2).bind fun r9 =>
      if r9.1 = 0 then
        some ((0 : Int32), r9.2)
      else
      if sv_ib (0 : Int32) 141 = true then
        if sv_bl (r9.2.1 204 (0 : Int32).toNatClampNeg) = true then
          ss_let (ss_setI r9.2 187 21 (r9.2.1 204 (0 : Int32).toNatClampNeg)) fun s10 =>
          some ((1 : Int32), s10)
        else none
      else none) (zb_CM t n base s (zb_xp t n 2 a)) := by
  have hb := h.1
  unfold zb_xp zb_sp
  simp only [zb_lit]
  rw [zb_Mo_takes h]
  refine zb_Wbind (zb_Wsome ?_)
  by_cases q : zb_nc t n a = zb_n 32
  · have hlt := zb_nc_lt (by omega) q
    rw [if_pos q, if_pos q]
    refine zb_Wneg zb_10 ?_
    have f1 : zb_fr zb_ZE s (ss_setI u 187 25 (zb_n (a + 1))) := zb_fr_set hf rfl
    refine zb_Wbind2 (zb_Mo_exp (zb_MT_at (b := a + 1) h (by omega))) (fun r hr => ?_)
    obtain ⟨r1, r2, r3, r4⟩ := hr
    have f2 := zb_fr_trans f1 r2
    rw [zb_F202 f1] at r3
    rw [r1]
    simp only [zb_b0]
    cases hp : (zb_exp t n (a + 1)).1 with
    | false => exact zb_Wpos rfl (zb_Wsome (zb_CM_no (r4 hp) f2))
    | true =>
      obtain ⟨v, v1, v2, v3⟩ := r3 hp
      refine zb_Wneg (by decide) ?_
      refine zb_Wpos (by decide) ?_
      have e0 : (zb_n 0).toNatClampNeg = 0 := zb_n_ix (by omega)
      refine zb_Wpos (by rw [e0, v3]; exact zb_bl_b) (zb_Wlet ?_)
      rw [e0, v3]
      refine zb_Wsome ?_
      exact ⟨rfl, zb_fr_set (zb_ZE_ZC f2) rfl, fun _ => ⟨zb_MT_fr (L := [187021]) v2 (zb_fr_set (zb_fr_refl _ _) rfl) (by decide), zb_EM_excuse f2 v1⟩, fun q => by cases q⟩
  · rw [if_neg q, if_neg q]
    exact zb_Wpos rfl (zb_Wsome (zb_CM_no h.2.2.2.1 hf))
theorem zb_M_by {u : sv_S} {x : Nat} (h : zb_MT t n a base u) (hf : zb_fr zb_ZE s u) : zb_W (ss_let (ss_setI u 187 19 (zb_n x)) fun s6 => some ((1 : Int32), s6)) (zb_CM t n base s (true, a, (0, 6, x, []))) := by
  refine zb_Wlet (zb_Wsome ?_)
  rw [zb_n_i]
  exact ⟨rfl, zb_fr_set (zb_ZE_ZC hf) rfl, fun _ => ⟨zb_MT_fr (L := [187019]) h (zb_fr_set (zb_fr_refl _ _) rfl) (by decide), zb_EM_by hf⟩, fun q => by cases q⟩
theorem zb_M_b38 (h : zb_MT t n a base s) : zb_W (F_Mo_takesClause_b38 (zb_nc t n a) (zb_nc t n (a + 1)) s) (zb_CM t n base s (zb_cl t n a)) := by
  unfold F_Mo_takesClause_b38
  by_cases h98 : zb_nc t n a = zb_n 98
  · refine zb_Wpos h98 ?_
    exact zb_M_word (i := 4) (w := [98, 97, 99, 107]) (zb_Mo_w_back h) (zb_wd_back h98) (fun u hu hf => zb_M_wrap (zb_M_plain (k := 3) (by omega) hu hf))
  refine zb_Wneg h98 ?_
  by_cases h101 : zb_nc t n a = zb_n 101
  · refine zb_Wpos h101 ?_
    by_cases d : zb_nc t n (a + 1) = zb_n 120
    · refine zb_Wpos d ?_
      exact zb_M_word (i := 10) (w := [101, 120, 99, 117, 115, 101]) (zb_Mo_w_excuse h) (zb_wd_excuse h101 d) (fun u hu hf => zb_M_xexcuse hu hf)
    · refine zb_Wneg d ?_
      exact zb_M_word (i := 7) (w := [101, 118, 101, 110]) (K := fun u => ss_let (ss_setI u 187 19 (0 : Int32)) fun s6 => some ((1 : Int32), s6)) (zb_Mo_w_even h) (zb_wd_even h101 d) (fun u hu hf => zb_M_by (x := 0) hu hf)
  refine zb_Wneg h101 ?_
  by_cases h103 : zb_nc t n a = zb_n 103
  · refine zb_Wpos h103 ?_
    by_cases d : zb_nc t n (a + 1) = zb_n 97
    · refine zb_Wpos d ?_
      exact zb_M_word (i := 5) (w := [103, 97, 105, 110]) (zb_Mo_w_gain h) (zb_wd_gain h103 d) (fun u hu hf => zb_M_wrap (zb_M_plain (k := 4) (by omega) hu hf))
    · refine zb_Wneg d ?_
      exact zb_M_word (i := 0) (w := [103, 111, 111, 100]) (zb_Mo_w_good h) (zb_wd_good h103 d) (fun u hu hf => zb_M_wrap (zb_M_good hu hf))
  refine zb_Wneg h103 ?_
  by_cases h109 : zb_nc t n a = zb_n 109
  · refine zb_Wpos h109 ?_
    by_cases d : zb_nc t n (a + 1) = zb_n 105
    · refine zb_Wpos d ?_
      exact zb_M_word (i := 6) (w := [109, 105, 108, 101, 115]) (K := fun u => ss_let (ss_setI u 187 19 (1 : Int32)) fun s6 => some ((1 : Int32), s6)) (zb_Mo_w_miles h) (zb_wd_miles h109 d) (fun u hu hf => zb_M_by (x := 1) hu hf)
    · refine zb_Wneg d ?_
      exact zb_M_word (i := 8) (w := [109, 111, 115, 116]) (zb_Mo_w_most h) (zb_wd_most h109 d) (fun u hu hf => zb_M_wrap (zb_M_most hu hf))
  refine zb_Wneg h109 ?_
  by_cases h110 : zb_nc t n a = zb_n 110
  · refine zb_Wpos h110 ?_
    exact zb_M_word (i := 3) (w := [110, 111, 116, 105, 99, 101]) (zb_Mo_w_notice h) (zb_wd_notice h110) (fun u hu hf => zb_M_wrap (zb_M_plain (k := 2) (by omega) hu hf))
  refine zb_Wneg h110 ?_
  by_cases h115 : zb_nc t n a = zb_n 115
  · refine zb_Wpos h115 ?_
    by_cases d : zb_nc t n (a + 1) = zb_n 97
    · refine zb_Wpos d ?_
      exact zb_M_word (i := 9) (w := [115, 97, 109, 101]) (zb_Mo_w_same h) (zb_wd_same h115 d) (fun u hu hf => zb_M_xsame hu hf)
    · refine zb_Wneg d ?_
      exact zb_M_word (i := 2) (w := [115, 109, 97, 108, 108]) (zb_Mo_w_small h) (zb_wd_small h115 d) (fun u hu hf => zb_M_wrap (zb_M_plain (k := 1) (by omega) hu hf))
  refine zb_Wneg h115 ?_
  by_cases h116 : zb_nc t n a = zb_n 116
  · refine zb_Wpos h116 ?_
    exact zb_M_word (i := 1) (w := [116, 101, 114, 109]) (zb_Mo_w_term h) (zb_wd_term h116) (fun u hu hf => zb_M_wrap (zb_M_plain (k := 0) (by omega) hu hf))
  refine zb_Wneg h116 ?_
  refine zb_Wsome ?_
  unfold zb_cl
  rw [zb_wd_none h98 h101 h103 h109 h110 h115 h116]
  exact zb_CM_no h.2.2.2.1 (zb_fr_refl _ _)
theorem zb_M_clause (h : zb_MT t n a base s) : zb_W (F_Mo_takesClause s) (zb_CM t n base s (zb_cl t n a)) := by
  have hb := h.1
  unfold F_Mo_takesClause
  rw [zb_next_M h, zb_m1]
  refine zb_Wbind (zb_Wsome ?_)
  simp (disch := omega) only [zb_lit, zb_n_add, zb_n_mul, zb_n_ix, zb_n_lt, zb_n_le, zb_n_eq, zb_ib_n, h.2.1, h.2.2.1, h.2.2.2.1]
  refine zb_Wif (fun q => ?_) (fun q => ?_)
  · have e : zb_nc t n (a + 1) = zb_i (-1) := by unfold zb_nc; rw [if_neg (by omega)]
    rw [← e]; exact zb_M_b38 h
  · rw [if_pos (by omega), Nat.add_assoc, h.2.2.2.2 (a + 1) (by omega)]
    have e : zb_nc t n (a + 1) = t (a + 1) := by unfold zb_nc; rw [if_pos (by omega)]
    rw [← e]; exact zb_M_b38 h
/-- a whole text: clauses, at most k of them -/
def zb_cls (t : Nat → Int32) (n : Nat) : Nat → Nat → Bool × Nat × List zb_EF
  | 0, a => (false, a, [])
  | k + 1, a =>
    if (zb_cl t n a).1 = true then
      (if (zb_cl t n a).2.1 = n then (true, n, [(zb_cl t n a).2.2])
       else if k = 0 then (false, (zb_cl t n a).2.1, [])
       else if zb_nc t n (zb_cl t n a).2.1 = zb_n 59 then ((zb_cls t n k ((zb_cl t n a).2.1 + 1)).1, (zb_cls t n k ((zb_cl t n a).2.1 + 1)).2.1, (zb_cl t n a).2.2 :: (zb_cls t n k ((zb_cl t n a).2.1 + 1)).2.2)
       else (false, (zb_cl t n a).2.1, []))
    else (false, (zb_cl t n a).2.1, [])
def zb_apl : List zb_EF → (Nat → Int) → (Nat → Int)
  | [], V => V
  | e :: l, V => zb_apl l (zb_ap e V)
def zb_tgl (F : Nat → Int32) (tag : Nat) : List zb_EF → Bool → Bool
  | [], b => b
  | e :: l, b => zb_tgl F tag l (if e.1 = tag then zb_hd F e.2.2.2 b else b)
def zb_EL (s u : sv_S) (l : List zb_EF) : Prop := ∀ V sm ex, zb_MV V sm ex s → zb_MV (zb_apl l V) (zb_tgl (s.1 202) 1 l sm) (zb_tgl (s.1 202) 2 l ex) u
theorem zb_F202C {u : sv_S} (h : zb_fr zb_ZC s u) : u.1 202 = s.1 202 := by funext k; exact h.1 202 k rfl
theorem zb_M_goes : ∀ (k f c a : Nat) (s : sv_S), c + k = 10 → 1 ≤ k → k < f → zb_MT t n a base s → zb_W (F_Mo_goes_b26 f (zb_n c) s) (fun r => r.1 = zb_b (zb_cls t n k a).1 ∧ zb_fr zb_ZC s r.2 ∧ ((zb_cls t n k a).1 = true → zb_EL s r.2 (zb_cls t n k a).2.2) ∧ r.2.1 187 25 = zb_n (zb_cls t n k a).2.1) := by
  intro k
  induction k with
  | zero => intro f c a s _ h; omega
  | succ k ih =>
    intro f c a s hc hk hf h
    obtain ⟨f, rfl⟩ : ∃ g, f = g + 1 := ⟨f - 1, by omega⟩
    simp only [F_Mo_goes_b26]
    refine zb_Wbind2 (zb_M_clause h) (fun r hr => ?_)
    generalize hP : zb_cls t n (k + 1) a = P
    simp only [zb_cls] at hP
    obtain ⟨r1, r2, r3, r4⟩ := hr
    simp only [zb_lit]
    rw [r1]
    simp only [zb_b0]
    cases hp : (zb_cl t n a).1 with
    | false =>
      rw [hp, if_neg (by decide)] at hP
      rw [← hP]
      exact zb_Wpos rfl (zb_Wsome ⟨rfl, r2, fun q => (by cases q), r4 hp⟩)
    | true =>
      rw [hp, if_pos rfl] at hP
      obtain ⟨m1, m2⟩ := r3 hp
      have mb := m1.1
      refine zb_Wneg (by decide) (zb_Wlet ?_)
      rw [m1.2.2.2.1, m1.2.2.1, zb_n_add]
      by_cases q : (zb_cl t n a).2.1 = n
      · rw [if_pos q] at hP
        rw [← hP]
        refine zb_Wpos (by rw [q]) (zb_Wsome ⟨rfl, r2, fun _ V sm ex hV => m2 V sm ex hV, by rw [m1.2.2.2.1, q]⟩)
      · rw [if_neg q] at hP
        refine zb_Wneg (by rw [zb_n_eq (by omega) (by omega)]; exact q) ?_
        by_cases k0 : k = 0
        · rw [if_pos k0] at hP
          rw [← hP]
          exact zb_Wpos (by rw [show c + 1 = 10 by omega]) (zb_Wsome ⟨rfl, r2, fun q => (by cases q), m1.2.2.2.1⟩)
        · rw [if_neg k0] at hP
          refine zb_Wneg (by rw [zb_n_eq (by omega) (by omega)]; omega) ?_
          rw [zb_Mo_takes m1]
          refine zb_Wbind (zb_Wsome ?_)
          by_cases q2 : zb_nc t n (zb_cl t n a).2.1 = zb_n 59
          · have hlt := zb_nc_lt (by omega) q2
            rw [if_pos q2] at hP
            rw [if_pos q2]
            refine zb_Wneg zb_10 ?_
            have fz : zb_fr zb_ZC s (ss_setI r.2 187 25 (zb_n ((zb_cl t n a).2.1 + 1))) := zb_fr_set r2 rfl
            refine zb_Wmono (ih f (c + 1) ((zb_cl t n a).2.1 + 1) _ (by omega) (by omega) (by omega) (zb_MT_at m1 (by omega))) (fun v hv => ?_)
            obtain ⟨v1, v2, v3, v4⟩ := hv
            rw [← hP]
            refine ⟨v1, zb_fr_trans fz v2, fun w V sm ex hV => ?_, v4⟩
            have F1 := zb_F202C fz
            have := v3 w _ _ _ (zb_MV_fr (m2 V sm ex hV) (zb_fr_set (zb_fr_refl _ _) rfl))
            rw [F1] at this
            exact this
          · rw [if_neg q2] at hP
            rw [if_neg q2, ← hP]
            exact zb_Wpos rfl (zb_Wsome ⟨rfl, r2, fun q => (by cases q), m1.2.2.2.1⟩)
end GO
