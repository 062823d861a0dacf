/-! clauses: what they say, and the model's reading of them -/
abbrev sb_EF : Type := Nat × Nat × Int × List Int32
abbrev sb_CR : Type := Bool × Nat × sb_EF
def sb_z0 : sb_EF := (0, 0, 0, [])
def sb_di1 (t : Nat → Int32) (n a : Nat) : Int := (sb_nc t n a).toInt - 48
def sb_nIn (t : Nat → Int32) (n k a : Nat) : sb_CR := if sb_dg (sb_nc t n a) = true then (true, (sb_num t n 4 a 0).2, (0, k, (sb_num t n 4 a 0).1, [])) else (false, a, sb_z0)
def sb_sp (t : Nat → Int32) (n : Nat) (f : Nat → sb_CR) (a : Nat) : sb_CR := if sb_nc t n a = sb_n 32 then f (a + 1) else (false, a, sb_z0)
def sb_g2 (t : Nat → Int32) (n g a : Nat) : sb_CR := sb_sp t n (fun a => if sb_dg (sb_nc t n a) = true then (true, a + 1, (0, 20 + g, sb_di1 t n a, [])) else (false, a, sb_z0)) a
def sb_good (t : Nat → Int32) (n a : Nat) : sb_CR := sb_sp t n (fun a => if sb_dg (sb_nc t n a) = true then (if sb_di1 t n a = 1 ∧ sb_dg (sb_nc t n (a + 1)) = true then sb_g2 t n (10 + (sb_di1 t n (a + 1)).toNat) (a + 2) else sb_g2 t n (sb_di1 t n a).toNat (a + 1)) else (false, a, sb_z0)) a
def sb_most (t : Nat → Int32) (n a : Nat) : sb_CR := sb_sp t n (fun a => if sb_dg (sb_nc t n a) = true then sb_sp t n (sb_nIn t n (10 + (sb_di1 t n a).toNat)) (a + 1) else (false, a, sb_z0)) a
def sb_xp (t : Nat → Int32) (n tag a : Nat) : sb_CR := sb_sp t n (fun a => ((sb_exp t n a).1, (sb_exp t n a).2.1, (tag, 0, 0, (sb_exp t n a).2.2))) a
/-- behind a word -/
def sb_bw (t : Nat → Int32) (n : Nat) (w : Int × Nat) : sb_CR :=
  if w.1 = -1 then (false, w.2, sb_z0) else if w.1 = 0 then sb_good t n w.2 else if w.1 = 6 then (true, w.2, (0, 6, 1, [])) else if w.1 = 7 then (true, w.2, (0, 6, 0, []))
  else if w.1 = 8 then sb_most t n w.2 else if w.1 = 9 then sb_xp t n 1 w.2 else if w.1 = 10 then sb_xp t n 2 w.2 else sb_sp t n (sb_nIn t n w.1.toNat) w.2
def sb_cl (t : Nat → Int32) (n a : Nat) : sb_CR := sb_bw t n (sb_wd t n a)
/-- what an effect makes of values -/
def sb_ap (e : sb_EF) (V : Nat → Int) : Nat → Int := if e.1 = 0 then (fun k => if k = e.2.1 then e.2.2.1 else V k) else V
def sb_hd (F : Nat → Int32) (l : List Int32) (d : Bool) : Bool := if l = [] then d else (sb_ev F l []).headD d
theorem sb_hd_val {F : Nat → Int32} {l : List Int32} {v d : Bool} (h : sb_val F l v) : sb_hd F l d = v ∧ l ≠ [] := by
  have hne : l ≠ [] := by intro e; have := h []; rw [e] at this; simp [sb_ev] at this
  unfold sb_hd; rw [if_neg hne, h []]; exact ⟨rfl, hne⟩
def sb_ZC : List Nat := [187025, 187026, 187029, 187030, 187031, 203, 204, 199, 200, 201, 187019, 187020, 187021]
/-- the model's values -/
def sb_MV (V : Nat → Int) (sm ex : Bool) (s : sv_S) : Prop :=
  (∀ k, k < 5 → s.1 201 k = sb_i (V (k + 1))) ∧ s.1 187 19 = sb_i (V 6) ∧ (∀ k, k < 10 → s.1 200 k = sb_i (V (10 + k))) ∧ (∀ k, k < 20 → s.1 199 k = sb_i (V (20 + k))) ∧ s.1 187 20 = sb_b sm ∧ s.1 187 21 = sb_b ex
def sb_EM (s u : sv_S) (e : sb_EF) : Prop := ∀ V sm ex, sb_MV V sm ex s → sb_MV (sb_ap e V) (if e.1 = 1 then sb_hd (s.1 202) e.2.2.2 sm else sm) (if e.1 = 2 then sb_hd (s.1 202) e.2.2.2 ex else ex) u
def sb_CM (t : Nat → Int32) (n base : Nat) (s : sv_S) (p : sb_CR) (r : Int32 × sv_S) : Prop :=
  r.1 = sb_b p.1 ∧ sb_fr sb_ZC s r.2 ∧ (p.1 = true → sb_MT t n p.2.1 base r.2 ∧ sb_EM s r.2 p.2.2) ∧ (p.1 = false → r.2.1 187 25 = sb_n p.2.1)
section CL
variable {t : Nat → Int32} {n a base : Nat} {s : sv_S}
theorem sb_MV_fr {V : Nat → Int} {sm ex : Bool} {u : sv_S} (h : sb_MV V sm ex s) (hf : sb_fr sb_ZE s u) : sb_MV V sm ex u := by
  refine ⟨fun k hk => ?_, ?_, fun k hk => ?_, fun k hk => ?_, ?_, ?_⟩
  · rw [hf.1 201 k rfl]; exact h.1 k hk
  · rw [hf.1 187 19 rfl]; exact h.2.1
  · rw [hf.1 200 k rfl]; exact h.2.2.1 k hk
  · rw [hf.1 199 k rfl]; exact h.2.2.2.1 k hk
  · rw [hf.1 187 20 rfl]; exact h.2.2.2.2.1
  · rw [hf.1 187 21 rfl]; exact h.2.2.2.2.2
theorem sb_EM_plain {u : sv_S} {k : Nat} {x : Int} (hf : sb_fr sb_ZE s u) (hk : k < 5) : sb_EM s (ss_setI u 201 k (sb_i x)) (0, k + 1, x, []) := by
  intro V sm ex h
  have h := sb_MV_fr h hf
  refine ⟨fun j hj => ?_, ?_, fun j hj => ?_, fun j hj => ?_, ?_, ?_⟩
  · show _ = sb_i (if j + 1 = k + 1 then x else V (j + 1))
    by_cases q : j = k
    · subst q; rw [sb_set_eq, if_pos rfl]
    · rw [sb_set_ne (by omega), if_neg (by omega)]; exact h.1 j hj
  · show _ = sb_i (if 6 = k + 1 then x else V 6)
    rw [sb_set_ne (by omega), if_neg (by omega)]; exact h.2.1
  · show _ = sb_i (if 10 + j = k + 1 then x else V (10 + j))
    rw [sb_set_ne (by omega), if_neg (by omega)]; exact h.2.2.1 j hj
  · show _ = sb_i (if 20 + j = k + 1 then x else V (20 + j))
    rw [sb_set_ne (by omega), if_neg (by omega)]; exact h.2.2.2.1 j hj
  · rw [sb_set_ne (by omega)]; exact h.2.2.2.2.1
  · rw [sb_set_ne (by omega)]; exact h.2.2.2.2.2
theorem sb_EM_most {u : sv_S} {k : Nat} {x : Int} (hf : sb_fr sb_ZE s u) (hk : k < 10) : sb_EM s (ss_setI u 200 k (sb_i x)) (0, 10 + k, x, []) := by
  intro V sm ex h
  have h := sb_MV_fr h hf
  refine ⟨fun j hj => ?_, ?_, fun j hj => ?_, fun j hj => ?_, ?_, ?_⟩
  · show _ = sb_i (if j + 1 = 10 + k then x else V (j + 1))
    rw [sb_set_ne (by omega), if_neg (by omega)]; exact h.1 j hj
  · show _ = sb_i (if 6 = 10 + k then x else V 6)
    rw [sb_set_ne (by omega), if_neg (by omega)]; exact h.2.1
  · show _ = sb_i (if 10 + j = 10 + k then x else V (10 + j))
    by_cases q : j = k
    · subst q; rw [sb_set_eq, if_pos rfl]
    · rw [sb_set_ne (by omega), if_neg (by omega)]; exact h.2.2.1 j hj
  · show _ = sb_i (if 20 + j = 10 + k then x else V (20 + j))
    rw [sb_set_ne (by omega), if_neg (by omega)]; exact h.2.2.2.1 j hj
  · rw [sb_set_ne (by omega)]; exact h.2.2.2.2.1
  · rw [sb_set_ne (by omega)]; exact h.2.2.2.2.2
theorem sb_EM_good {u : sv_S} {k : Nat} {x : Int} (hf : sb_fr sb_ZE s u) (hk : k < 20) : sb_EM s (ss_setI u 199 k (sb_i x)) (0, 20 + k, x, []) := by
  intro V sm ex h
  have h := sb_MV_fr h hf
  refine ⟨fun j hj => ?_, ?_, fun j hj => ?_, fun j hj => ?_, ?_, ?_⟩
  · show _ = sb_i (if j + 1 = 20 + k then x else V (j + 1))
    rw [sb_set_ne (by omega), if_neg (by omega)]; exact h.1 j hj
  · show _ = sb_i (if 6 = 20 + k then x else V 6)
    rw [sb_set_ne (by omega), if_neg (by omega)]; exact h.2.1
  · show _ = sb_i (if 10 + j = 20 + k then x else V (10 + j))
    rw [sb_set_ne (by omega), if_neg (by omega)]; exact h.2.2.1 j hj
  · show _ = sb_i (if 20 + j = 20 + k then x else V (20 + j))
    by_cases q : j = k
    · subst q; rw [sb_set_eq, if_pos rfl]
    · rw [sb_set_ne (by omega), if_neg (by omega)]; exact h.2.2.2.1 j hj
  · rw [sb_set_ne (by omega)]; exact h.2.2.2.2.1
  · rw [sb_set_ne (by omega)]; exact h.2.2.2.2.2
theorem sb_EM_by {u : sv_S} {x : Int} (hf : sb_fr sb_ZE s u) : sb_EM s (ss_setI u 187 19 (sb_i x)) (0, 6, x, []) := by
  intro V sm ex h
  have h := sb_MV_fr h hf
  refine ⟨fun j hj => ?_, ?_, fun j hj => ?_, fun j hj => ?_, ?_, ?_⟩
  · show _ = sb_i (if j + 1 = 6 then x else V (j + 1))
    rw [sb_set_ne (by omega), if_neg (by omega)]; exact h.1 j hj
  · show _ = sb_i (if 6 = 6 then x else V 6)
    rw [sb_set_eq, if_pos rfl]
  · show _ = sb_i (if 10 + j = 6 then x else V (10 + j))
    rw [sb_set_ne (by omega), if_neg (by omega)]; exact h.2.2.1 j hj
  · show _ = sb_i (if 20 + j = 6 then x else V (20 + j))
    rw [sb_set_ne (by omega), if_neg (by omega)]; exact h.2.2.2.1 j hj
  · rw [sb_set_ne (by omega)]; exact h.2.2.2.2.1
  · rw [sb_set_ne (by omega)]; exact h.2.2.2.2.2
theorem sb_EM_same {u : sv_S} {l : List Int32} {v : Bool} (hf : sb_fr sb_ZE s u) (hv : sb_val (s.1 202) l v) : sb_EM s (ss_setI u 187 20 (sb_b v)) (1, 0, 0, l) := by
  intro V sm ex h
  have h := sb_MV_fr h hf
  refine ⟨fun j hj => ?_, ?_, fun j hj => ?_, fun j hj => ?_, ?_, ?_⟩
  · rw [sb_set_ne (by omega)]; exact h.1 j hj
  · rw [sb_set_ne (by omega)]; exact h.2.1
  · rw [sb_set_ne (by omega)]; exact h.2.2.1 j hj
  · rw [sb_set_ne (by omega)]; exact h.2.2.2.1 j hj
  · rw [sb_set_eq]; show _ = sb_b (sb_hd (s.1 202) l sm); rw [(sb_hd_val hv).1]
  · rw [sb_set_ne (by omega)]; exact h.2.2.2.2.2
theorem sb_EM_excuse {u : sv_S} {l : List Int32} {v : Bool} (hf : sb_fr sb_ZE s u) (hv : sb_val (s.1 202) l v) : sb_EM s (ss_setI u 187 21 (sb_b v)) (2, 0, 0, l) := by
  intro V sm ex h
  have h := sb_MV_fr h hf
  refine ⟨fun j hj => ?_, ?_, fun j hj => ?_, fun j hj => ?_, ?_, ?_⟩
  · rw [sb_set_ne (by omega)]; exact h.1 j hj
  · rw [sb_set_ne (by omega)]; exact h.2.1
  · rw [sb_set_ne (by omega)]; exact h.2.2.1 j hj
  · rw [sb_set_ne (by omega)]; exact h.2.2.2.1 j hj
  · rw [sb_set_ne (by omega)]; exact h.2.2.2.2.1
  · rw [sb_set_eq]; show _ = sb_b (sb_hd (s.1 202) l ex); rw [(sb_hd_val hv).1]
theorem sb_ZE_ZC {u : sv_S} (h : sb_fr sb_ZE s u) : sb_fr sb_ZC s u := sb_fr_mono h (by decide)
theorem sb_CM_no {u : sv_S} {b : Nat} {e : sb_EF} (hM : u.1 187 25 = sb_n b) (hf : sb_fr sb_ZE s u) : sb_CM t n base s (false, b, e) (sb_n 0, u) := ⟨rfl, sb_ZE_ZC hf, fun q => (by cases q), fun _ => hM⟩
theorem sb_M_plain {u : sv_S} {k : Nat} (hk : k < 5) (h : sb_MT t n a base u) (hf : sb_fr sb_ZE s u) : sb_W (F_Mo_takesPlain (sb_n k) u) (sb_CM t n base s (sb_sp t n (sb_nIn t n (k + 1)) a)) := by
  have hb := h.1
  unfold F_Mo_takesPlain sb_sp
  simp only [sb_lit]
  rw [sb_Mo_takes h]
  refine sb_Wbind (sb_Wsome ?_)
  by_cases q : sb_nc t n a = sb_n 32
  · have hlt := sb_nc_lt (by omega) q
    rw [if_pos q, if_pos q]
    refine sb_Wneg sb_10 ?_
    refine sb_Wbind2 (sb_Mo_takesNumber (sb_MT_at (b := a + 1) h (by omega))) (fun r hr => ?_)
    obtain ⟨r1, r2, r3, r4⟩ := hr
    have f2 : sb_fr sb_ZE s r.2 := sb_fr_trans (sb_fr_set hf rfl) (sb_fr_mono r2 (by decide))
    rw [r1]
    simp only [sb_b0]
    unfold sb_nIn
    unfold sb_no at r3 r4
    by_cases w : sb_dg (sb_nc t n (a + 1)) = true
    · rw [if_pos w] at r3 r4
      rw [if_pos w, if_neg (by rw [w]; decide)]
      refine sb_Wpos (by first | omega | (simp (disch := omega) only [sb_lit, sb_n_add, sb_n_mul, sb_n_ix, sb_n_lt, sb_n_le, sb_n_eq, sb_ib_n] <;> omega)) ?_
      refine sb_Wlet (sb_Wsome ?_)
      rw [sb_n_ix (by omega), r4 w]
      exact ⟨rfl, sb_fr_set (sb_ZE_ZC f2) rfl, fun _ => ⟨sb_MT_fr (L := [201]) r3 (sb_fr_set (sb_fr_refl _ _) rfl) (by decide), sb_EM_plain f2 hk⟩, fun q => by cases q⟩
    · have w' : sb_dg (sb_nc t n (a + 1)) = false := by simpa using w
      rw [if_neg w] at r3
      rw [if_neg w, if_pos w']
      exact sb_Wsome (sb_CM_no r3.2.2.2.1 f2)
  · rw [if_neg q, if_neg q]
    exact sb_Wpos rfl (sb_Wsome (sb_CM_no h.2.2.2.1 hf))
theorem sb_di1_rg (h : sb_dg (sb_nc t n a) = true) : 0 ≤ sb_di1 t n a ∧ sb_di1 t n a ≤ 9 ∧ sb_nc t n a - sb_n 48 = sb_n (sb_di1 t n a).toNat := by
  unfold sb_dg at h
  rw [decide_eq_true_eq] at h
  unfold sb_di1
  refine ⟨by omega, by omega, ?_⟩
  rw [sb_n_i, sb_n_i, Int.toNat_of_nonneg (by omega)]
  conv => lhs; rw [sb_i_of (sb_nc t n a)]
  rw [sb_i_sub]; rfl
theorem sb_M_most {u : sv_S} (h : sb_MT t n a base u) (hf : sb_fr sb_ZE s u) : sb_W (F_Mo_takesMost u) (sb_CM t n base s (sb_most t n a)) := by
  have hb := h.1
  unfold F_Mo_takesMost sb_most
  generalize hsp : sb_sp t n (fun a => if sb_dg (sb_nc t n a) = true then sb_sp t n (sb_nIn t n (10 + (sb_di1 t n a).toNat)) (a + 1) else (false, a, sb_z0)) a = P
  unfold sb_sp at hsp
  simp only [sb_lit]
  rw [sb_Mo_takes h]
  refine sb_Wbind (sb_Wsome ?_)
  by_cases q : sb_nc t n a = sb_n 32
  · have hlt := sb_nc_lt (by omega) q
    rw [if_pos q] at hsp
    dsimp only at hsp
    rw [if_pos q]
    refine sb_Wneg sb_10 ?_
    have h1 := sb_MT_at (b := a + 1) h (by omega)
    have f1 : sb_fr sb_ZE s (ss_setI u 187 25 (sb_n (a + 1))) := sb_fr_set hf rfl
    rw [sb_Mo_isDigit h1]
    refine sb_Wbind (sb_Wsome ?_)
    simp only [sb_b0]
    by_cases w : sb_dg (sb_nc t n (a + 1)) = true
    · have hlt2 := sb_dg_lt w
      obtain ⟨g1, g2, g3⟩ := sb_di1_rg w
      rw [if_pos w] at hsp
      rw [if_neg (by rw [w]; decide), sb_next_M h1]
      refine sb_Wbind (sb_Wsome (sb_Wlet (sb_Wlet ?_)))
      rw [g3, h1.2.2.2.1, sb_n_add]
      have h2 := sb_MT_at (b := a + 2) h1 (by omega)
      have f2 : sb_fr sb_ZE s (ss_setI (ss_setI u 187 25 (sb_n (a + 1))) 187 25 (sb_n (a + 2))) := sb_fr_set f1 rfl
      rw [sb_Mo_takes h2]
      refine sb_Wbind (sb_Wsome ?_)
      by_cases q3 : sb_nc t n (a + 2) = sb_n 32
      · have hlt3 := sb_nc_lt (by omega) q3
        rw [if_pos q3] at hsp
        rw [if_pos q3]
        refine sb_Wneg sb_10 ?_
        refine sb_Wbind2 (sb_Mo_takesNumber (sb_MT_at (b := a + 3) h2 (by omega))) (fun r hr => ?_)
        obtain ⟨r1, r2, r3, r4⟩ := hr
        have f3 : sb_fr sb_ZE s r.2 := sb_fr_trans (sb_fr_set f2 rfl) (sb_fr_mono r2 (by decide))
        rw [r1]
        simp only [sb_b0]
        unfold sb_nIn at hsp
        unfold sb_no at r3 r4
        by_cases w3 : sb_dg (sb_nc t n (a + 3)) = true
        · rw [if_pos w3] at r3 r4
          rw [if_pos w3] at hsp
          rw [if_neg (by rw [w3]; decide)]
          refine sb_Wpos (by first | omega | (simp (disch := omega) only [sb_lit, sb_n_add, sb_n_mul, sb_n_ix, sb_n_lt, sb_n_le, sb_n_eq, sb_ib_n] <;> omega)) ?_
          refine sb_Wlet (sb_Wsome ?_)
          rw [sb_n_ix (by omega), r4 w3, ← hsp]
          exact ⟨rfl, sb_fr_set (sb_ZE_ZC f3) rfl, fun _ => ⟨sb_MT_fr (L := [200]) r3 (sb_fr_set (sb_fr_refl _ _) rfl) (by decide), sb_EM_most f3 (by omega)⟩, fun q => by cases q⟩
        · have w' : sb_dg (sb_nc t n (a + 3)) = false := by simpa using w3
          rw [if_neg w3] at r3
          rw [if_neg w3] at hsp
          rw [if_pos w', ← hsp]
          exact sb_Wsome (sb_CM_no r3.2.2.2.1 f3)
      · rw [if_neg q3] at hsp
        rw [if_neg q3, ← hsp]
        exact sb_Wpos rfl (sb_Wsome (sb_CM_no h2.2.2.2.1 f2))
    · have w' : sb_dg (sb_nc t n (a + 1)) = false := by simpa using w
      rw [if_neg w] at hsp
      rw [if_pos w', ← hsp]
      exact sb_Wsome (sb_CM_no h1.2.2.2.1 f1)
  · rw [if_neg q] at hsp
    rw [if_neg q, ← hsp]
    exact sb_Wpos rfl (sb_Wsome (sb_CM_no h.2.2.2.1 hf))
theorem sb_M_g2 {u : sv_S} {g : Nat} (hg : g < 20) (h : sb_MT t n a base u) (hf : sb_fr sb_ZE s u) : sb_W (F_Mo_takesGood_b69 (sb_n g) u) (sb_CM t n base s (sb_g2 t n g a)) := by
  have hb := h.1
  unfold F_Mo_takesGood_b69 sb_g2
  generalize hsp : sb_sp t n (fun a => if sb_dg (sb_nc t n a) = true then (true, a + 1, (0, 20 + g, sb_di1 t n a, [])) else (false, a, sb_z0)) a = P
  unfold sb_sp at hsp
  simp only [sb_lit]
  rw [sb_Mo_takes h]
  refine sb_Wbind (sb_Wsome ?_)
  by_cases q : sb_nc t n a = sb_n 32
  · have hlt := sb_nc_lt (by omega) q
    rw [if_pos q] at hsp
    dsimp only at hsp
    rw [if_pos q]
    refine sb_Wneg sb_10 ?_
    have h1 := sb_MT_at (b := a + 1) h (by omega)
    have f1 : sb_fr sb_ZE s (ss_setI u 187 25 (sb_n (a + 1))) := sb_fr_set hf rfl
    rw [sb_Mo_isDigit h1]
    refine sb_Wbind (sb_Wsome ?_)
    simp only [sb_b0]
    by_cases w : sb_dg (sb_nc t n (a + 1)) = true
    · have hlt2 := sb_dg_lt w
      obtain ⟨g1, g2, g3⟩ := sb_di1_rg w
      rw [if_pos w] at hsp
      rw [if_neg (by rw [w]; decide), sb_next_M h1]
      refine sb_Wbind (sb_Wsome ?_)
      refine sb_Wpos (by first | omega | (simp (disch := omega) only [sb_lit, sb_n_add, sb_n_mul, sb_n_ix, sb_n_lt, sb_n_le, sb_n_eq, sb_ib_n] <;> omega)) ?_
      refine sb_Wlet (sb_Wlet (sb_Wsome ?_))
      have e25 : ∀ v, (ss_setI (ss_setI u 187 25 (sb_n (a + 1))) 199 g v).1 187 25 = sb_n (a + 1) := fun v => (sb_set_ne (by omega)).trans sb_set_eq
      have ei : sb_n (sb_di1 t n (a + 1)).toNat = sb_i (sb_di1 t n (a + 1)) := by rw [sb_n_i, Int.toNat_of_nonneg g1]
      rw [g3, ei, sb_n_ix (by omega), e25, sb_n_add, ← hsp]
      refine ⟨rfl, sb_fr_set (sb_fr_set (sb_ZE_ZC f1) rfl) rfl, fun _ => ⟨sb_MT_at (b := a + 1 + 1) (sb_MT_fr (L := [199]) h1 (sb_fr_set (sb_fr_refl _ _) rfl) (by decide)) (by omega), ?_⟩, fun q => by cases q⟩
      intro V sm ex hV
      exact sb_MV_fr (sb_EM_good f1 hg V sm ex hV) (sb_fr_set (sb_fr_refl _ _) rfl)
    · have w' : sb_dg (sb_nc t n (a + 1)) = false := by simpa using w
      rw [if_neg w] at hsp
      rw [if_pos w', ← hsp]
      exact sb_Wsome (sb_CM_no h1.2.2.2.1 f1)
  · rw [if_neg q] at hsp
    rw [if_neg q, ← hsp]
    exact sb_Wpos rfl (sb_Wsome (sb_CM_no h.2.2.2.1 hf))
theorem sb_M_good {u : sv_S} (h : sb_MT t n a base u) (hf : sb_fr sb_ZE s u) : sb_W (F_Mo_takesGood u) (sb_CM t n base s (sb_good t n a)) := by
  have hb := h.1
  unfold F_Mo_takesGood sb_good
  generalize hsp : sb_sp t n (fun a => if sb_dg (sb_nc t n a) = true then (if sb_di1 t n a = 1 ∧ sb_dg (sb_nc t n (a + 1)) = true then sb_g2 t n (10 + (sb_di1 t n (a + 1)).toNat) (a + 2) else sb_g2 t n (sb_di1 t n a).toNat (a + 1)) else (false, a, sb_z0)) a = P
  unfold sb_sp at hsp
  simp only [sb_lit]
  rw [sb_Mo_takes h]
  refine sb_Wbind (sb_Wsome ?_)
  by_cases q : sb_nc t n a = sb_n 32
  · have hlt := sb_nc_lt (by omega) q
    rw [if_pos q] at hsp
    dsimp only at hsp
    rw [if_pos q]
    refine sb_Wneg sb_10 ?_
    have h1 := sb_MT_at (b := a + 1) h (by omega)
    have f1 : sb_fr sb_ZE s (ss_setI u 187 25 (sb_n (a + 1))) := sb_fr_set hf rfl
    rw [sb_Mo_isDigit h1]
    refine sb_Wbind (sb_Wsome ?_)
    simp only [sb_b0]
    by_cases w : sb_dg (sb_nc t n (a + 1)) = true
    · have hlt2 := sb_dg_lt w
      obtain ⟨g1, g2, g3⟩ := sb_di1_rg w
      rw [if_pos w] at hsp
      rw [if_neg (by rw [w]; decide), sb_next_M h1]
      refine sb_Wbind (sb_Wsome (sb_Wlet (sb_Wlet ?_)))
      rw [g3, h1.2.2.2.1, sb_n_add]
      have h2 := sb_MT_at (b := a + 2) h1 (by omega)
      have f2 : sb_fr sb_ZE s (ss_setI (ss_setI u 187 25 (sb_n (a + 1))) 187 25 (sb_n (a + 2))) := sb_fr_set f1 rfl
      by_cases o1 : sb_di1 t n (a + 1) = 1
      · refine sb_Wpos (by rw [o1]; rfl) ?_
        rw [sb_Mo_isDigit h2]
        refine sb_Wbind (sb_Wsome ?_)
        simp only [sb_b0]
        by_cases w2 : sb_dg (sb_nc t n (a + 2)) = true
        · have hlt3 := sb_dg_lt w2
          obtain ⟨k1, k2, k3⟩ := sb_di1_rg w2
          rw [if_pos ⟨o1, w2⟩] at hsp
          rw [if_neg (by rw [w2]; decide), sb_next_M h2]
          refine sb_Wbind (sb_Wsome (sb_Wlet (sb_Wlet ?_)))
          have e10 : sb_n 10 + sb_nc t n (a + 2) - sb_n 48 = sb_n (10 + (sb_di1 t n (a + 2)).toNat) := by
            rw [← sb_n_add, ← k3, Int32.sub_eq_add_neg, Int32.sub_eq_add_neg, Int32.add_assoc]
          rw [e10, h2.2.2.2.1, sb_n_add, ← hsp]
          exact sb_M_g2 (by omega) (sb_MT_at (b := a + 3) h2 (by omega)) (sb_fr_set f2 rfl)
        · have w' : sb_dg (sb_nc t n (a + 2)) = false := by simpa using w2
          rw [if_neg (fun z => w2 z.2)] at hsp
          rw [if_pos w', ← hsp]
          exact sb_M_g2 (by omega) h2 f2
      · refine sb_Wneg (by rw [sb_n_eq (by omega) (by omega)]; omega) ?_
        rw [if_neg (fun z => o1 z.1)] at hsp
        rw [← hsp]
        exact sb_M_g2 (by omega) h2 f2
    · have w' : sb_dg (sb_nc t n (a + 1)) = false := by simpa using w
      rw [if_neg w] at hsp
      rw [if_pos w', ← hsp]
      exact sb_Wsome (sb_CM_no h1.2.2.2.1 f1)
  · rw [if_neg q] at hsp
    rw [if_neg q, ← hsp]
    exact sb_Wpos rfl (sb_Wsome (sb_CM_no h.2.2.2.1 hf))
end CL
