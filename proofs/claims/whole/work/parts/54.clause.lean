/-! clauses: what they say, and the model's reading of them -/
abbrev zb_EF : Type := Nat × Nat × Int × List Int32
abbrev zb_CR : Type := Bool × Nat × zb_EF
def zb_z0 : zb_EF := (0, 0, 0, [])
def zb_di1 (t : Nat → Int32) (n a : Nat) : Int := (zb_nc t n a).toInt - 48
def zb_nIn (t : Nat → Int32) (n k a : Nat) : zb_CR := if zb_dg (zb_nc t n a) = true then (true, (zb_num t n 4 a 0).2, (0, k, (zb_num t n 4 a 0).1, [])) else (false, a, zb_z0)
def zb_sp (t : Nat → Int32) (n : Nat) (f : Nat → zb_CR) (a : Nat) : zb_CR := if zb_nc t n a = zb_n 32 then f (a + 1) else (false, a, zb_z0)
def zb_g2 (t : Nat → Int32) (n g a : Nat) : zb_CR := zb_sp t n (fun a => if zb_dg (zb_nc t n a) = true then (true, a + 1, (0, 20 + g, zb_di1 t n a, [])) else (false, a, zb_z0)) a
def zb_good (t : Nat → Int32) (n a : Nat) : zb_CR := zb_sp t n (fun a => if zb_dg (zb_nc t n a) = true then (if zb_di1 t n a = 1 ∧ zb_dg (zb_nc t n (a + 1)) = true then zb_g2 t n (10 + (zb_di1 t n (a + 1)).toNat) (a + 2) else zb_g2 t n (zb_di1 t n a).toNat (a + 1)) else (false, a, zb_z0)) a
def zb_most (t : Nat → Int32) (n a : Nat) : zb_CR := zb_sp t n (fun a => if zb_dg (zb_nc t n a) = true then zb_sp t n (zb_nIn t n (10 + (zb_di1 t n a).toNat)) (a + 1) else (false, a, zb_z0)) a
def zb_xp (t : Nat → Int32) (n tag a : Nat) : zb_CR := zb_sp t n (fun a => ((zb_exp t n a).1, (zb_exp t n a).2.1, (tag, 0, 0, (zb_exp t n a).2.2))) a
/-- behind a word -/
def zb_bw (t : Nat → Int32) (n : Nat) (w : Int × Nat) : zb_CR :=
  if w.1 = -1 then (false, w.2, zb_z0) else if w.1 = 0 then zb_good t n w.2 else if w.1 = 6 then (true, w.2, (0, 6, 1, [])) else if w.1 = 7 then (true, w.2, (0, 6, 0, []))
  else if w.1 = 8 then zb_most t n w.2 else if w.1 = 9 then zb_xp t n 1 w.2 else if w.1 = 10 then zb_xp t n 2 w.2 else zb_sp t n (zb_nIn t n w.1.toNat) w.2
def zb_cl (t : Nat → Int32) (n a : Nat) : zb_CR := zb_bw t n (zb_wd t n a)
/-- what an effect makes of values -/
def zb_ap (e : zb_EF) (V : Nat → Int) : Nat → Int := if e.1 = 0 then (fun k => if k = e.2.1 then e.2.2.1 else V k) else V
def zb_hd (F : Nat → Int32) (l : List Int32) (d : Bool) : Bool := if l = [] then d else (zb_ev F l []).headD d
theorem zb_hd_val {F : Nat → Int32} {l : List Int32} {v d : Bool} (h : zb_val F l v) : zb_hd F l d = v ∧ l ≠ [] := by
  have hne : l ≠ [] := by intro e; have := h []; rw [e] at this; simp [zb_ev] at this
  unfold zb_hd; rw [if_neg hne, h []]; exact ⟨rfl, hne⟩
def zb_ZC : List Nat := [187025, 187026, 187029, 187030, 187031, 203, 204, 199, 200, 201, 187019, 187020, 187021]
/-- the model's values -/
def zb_MV (V : Nat → Int) (sm ex : Bool) (s : sv_S) : Prop :=
  (∀ k, k < 5 → s.1 201 k = zb_i (V (k + 1))) ∧ s.1 187 19 = zb_i (V 6) ∧ (∀ k, k < 10 → s.1 200 k = zb_i (V (10 + k))) ∧ (∀ k, k < 20 → s.1 199 k = zb_i (V (20 + k))) ∧ s.1 187 20 = zb_b sm ∧ s.1 187 21 = zb_b ex
def zb_EM (s u : sv_S) (e : zb_EF) : Prop := ∀ V sm ex, zb_MV V sm ex s → zb_MV (zb_ap e V) (if e.1 = 1 then zb_hd (s.1 202) e.2.2.2 sm else sm) (if e.1 = 2 then zb_hd (s.1 202) e.2.2.2 ex else ex) u
def zb_CM (t : Nat → Int32) (n base : Nat) (s : sv_S) (p : zb_CR) (r : Int32 × sv_S) : Prop :=
  r.1 = zb_b p.1 ∧ zb_fr zb_ZC s r.2 ∧ (p.1 = true → zb_MT t n p.2.1 base r.2 ∧ zb_EM s r.2 p.2.2) ∧ (p.1 = false → r.2.1 187 25 = zb_n p.2.1)
section CL
variable {t : Nat → Int32} {n a base : Nat} {s : sv_S}
theorem zb_MV_fr {V : Nat → Int} {sm ex : Bool} {u : sv_S} (h : zb_MV V sm ex s) (hf : zb_fr zb_ZE s u) : zb_MV V sm ex u := by
  refine ⟨fun k hk => ?_, ?_, fun k hk => ?_, fun k hk => ?_, ?_, ?_⟩
  · rw [hf.1 201 k rfl]; exact h.1 k hk
  · rw [hf.1 187 19 rfl]; exact h.2.1
  · rw [hf.1 200 k rfl]; exact h.2.2.1 k hk
  · rw [hf.1 199 k rfl]; exact h.2.2.2.1 k hk
  · rw [hf.1 187 20 rfl]; exact h.2.2.2.2.1
  · rw [hf.1 187 21 rfl]; exact h.2.2.2.2.2
theorem zb_EM_plain {u : sv_S} {k : Nat} {x : Int} (hf : zb_fr zb_ZE s u) (hk : k < 5) : zb_EM s (ss_setI u 201 k (zb_i x)) (0, k + 1, x, []) := by
  intro V sm ex h
  have h := zb_MV_fr h hf
  refine ⟨fun j hj => ?_, ?_, fun j hj => ?_, fun j hj => ?_, ?_, ?_⟩
  · show _ = zb_i (if j + 1 = k + 1 then x else V (j + 1))
    by_cases q : j = k
    · subst q; rw [zb_set_eq, if_pos rfl]
    · rw [zb_set_ne (by omega), if_neg (by omega)]; exact h.1 j hj
  · show _ = zb_i (if 6 = k + 1 then x else V 6)
    rw [zb_set_ne (by omega), if_neg (by omega)]; exact h.2.1
  · show _ = zb_i (if 10 + j = k + 1 then x else V (10 + j))
    rw [zb_set_ne (by omega), if_neg (by omega)]; exact h.2.2.1 j hj
  · show _ = zb_i (if 20 + j = k + 1 then x else V (20 + j))
    rw [zb_set_ne (by omega), if_neg (by omega)]; exact h.2.2.2.1 j hj
  · rw [zb_set_ne (by omega)]; exact h.2.2.2.2.1
  · rw [zb_set_ne (by omega)]; exact h.2.2.2.2.2
theorem zb_EM_most {u : sv_S} {k : Nat} {x : Int} (hf : zb_fr zb_ZE s u) (hk : k < 10) : zb_EM s (ss_setI u 200 k (zb_i x)) (0, 10 + k, x, []) := by
  intro V sm ex h
  have h := zb_MV_fr h hf
  refine ⟨fun j hj => ?_, ?_, fun j hj => ?_, fun j hj => ?_, ?_, ?_⟩
  · show _ = zb_i (if j + 1 = 10 + k then x else V (j + 1))
    rw [zb_set_ne (by omega), if_neg (by omega)]; exact h.1 j hj
  · show _ = zb_i (if 6 = 10 + k then x else V 6)
    rw [zb_set_ne (by omega), if_neg (by omega)]; exact h.2.1
  · show _ = zb_i (if 10 + j = 10 + k then x else V (10 + j))
    by_cases q : j = k
    · subst q; rw [zb_set_eq, if_pos rfl]
    · rw [zb_set_ne (by omega), if_neg (by omega)]; exact h.2.2.1 j hj
  · show _ = zb_i (if 20 + j = 10 + k then x else V (20 + j))
    rw [zb_set_ne (by omega), if_neg (by omega)]; exact h.2.2.2.1 j hj
  · rw [zb_set_ne (by omega)]; exact h.2.2.2.2.1
  · rw [zb_set_ne (by omega)]; exact h.2.2.2.2.2
theorem zb_EM_good {u : sv_S} {k : Nat} {x : Int} (hf : zb_fr zb_ZE s u) (hk : k < 20) : zb_EM s (ss_setI u 199 k (zb_i x)) (0, 20 + k, x, []) := by
  intro V sm ex h
  have h := zb_MV_fr h hf
  refine ⟨fun j hj => ?_, ?_, fun j hj => ?_, fun j hj => ?_, ?_, ?_⟩
  · show _ = zb_i (if j + 1 = 20 + k then x else V (j + 1))
    rw [zb_set_ne (by omega), if_neg (by omega)]; exact h.1 j hj
  · show _ = zb_i (if 6 = 20 + k then x else V 6)
    rw [zb_set_ne (by omega), if_neg (by omega)]; exact h.2.1
  · show _ = zb_i (if 10 + j = 20 + k then x else V (10 + j))
    rw [zb_set_ne (by omega), if_neg (by omega)]; exact h.2.2.1 j hj
  · show _ = zb_i (if 20 + j = 20 + k then x else V (20 + j))
    by_cases q : j = k
    · subst q; rw [zb_set_eq, if_pos rfl]
    · rw [zb_set_ne (by omega), if_neg (by omega)]; exact h.2.2.2.1 j hj
  · rw [zb_set_ne (by omega)]; exact h.2.2.2.2.1
  · rw [zb_set_ne (by omega)]; exact h.2.2.2.2.2
theorem zb_EM_by {u : sv_S} {x : Int} (hf : zb_fr zb_ZE s u) : zb_EM s (ss_setI u 187 19 (zb_i x)) (0, 6, x, []) := by
  intro V sm ex h
  have h := zb_MV_fr h hf
  refine ⟨fun j hj => ?_, ?_, fun j hj => ?_, fun j hj => ?_, ?_, ?_⟩
  · show _ = zb_i (if j + 1 = 6 then x else V (j + 1))
    rw [zb_set_ne (by omega), if_neg (by omega)]; exact h.1 j hj
  · show _ = zb_i (if 6 = 6 then x else V 6)
    rw [zb_set_eq, if_pos rfl]
  · show _ = zb_i (if 10 + j = 6 then x else V (10 + j))
    rw [zb_set_ne (by omega), if_neg (by omega)]; exact h.2.2.1 j hj
  · show _ = zb_i (if 20 + j = 6 then x else V (20 + j))
    rw [zb_set_ne (by omega), if_neg (by omega)]; exact h.2.2.2.1 j hj
  · rw [zb_set_ne (by omega)]; exact h.2.2.2.2.1
  · rw [zb_set_ne (by omega)]; exact h.2.2.2.2.2
theorem zb_EM_same {u : sv_S} {l : List Int32} {v : Bool} (hf : zb_fr zb_ZE s u) (hv : zb_val (s.1 202) l v) : zb_EM s (ss_setI u 187 20 (zb_b v)) (1, 0, 0, l) := by
  intro V sm ex h
  have h := zb_MV_fr h hf
  refine ⟨fun j hj => ?_, ?_, fun j hj => ?_, fun j hj => ?_, ?_, ?_⟩
  · rw [zb_set_ne (by omega)]; exact h.1 j hj
  · rw [zb_set_ne (by omega)]; exact h.2.1
  · rw [zb_set_ne (by omega)]; exact h.2.2.1 j hj
  · rw [zb_set_ne (by omega)]; exact h.2.2.2.1 j hj
  · rw [zb_set_eq]; show _ = zb_b (zb_hd (s.1 202) l sm); rw [(zb_hd_val hv).1]
  · rw [zb_set_ne (by omega)]; exact h.2.2.2.2.2
theorem zb_EM_excuse {u : sv_S} {l : List Int32} {v : Bool} (hf : zb_fr zb_ZE s u) (hv : zb_val (s.1 202) l v) : zb_EM s (ss_setI u 187 21 (zb_b v)) (2, 0, 0, l) := by
  intro V sm ex h
  have h := zb_MV_fr h hf
  refine ⟨fun j hj => ?_, ?_, fun j hj => ?_, fun j hj => ?_, ?_, ?_⟩
  · rw [zb_set_ne (by omega)]; exact h.1 j hj
  · rw [zb_set_ne (by omega)]; exact h.2.1
  · rw [zb_set_ne (by omega)]; exact h.2.2.1 j hj
  · rw [zb_set_ne (by omega)]; exact h.2.2.2.1 j hj
  · rw [zb_set_ne (by omega)]; exact h.2.2.2.2.1
  · rw [zb_set_eq]; show _ = zb_b (zb_hd (s.1 202) l ex); rw [(zb_hd_val hv).1]
theorem zb_ZE_ZC {u : sv_S} (h : zb_fr zb_ZE s u) : zb_fr zb_ZC s u := zb_fr_mono h (by decide)
theorem zb_CM_no {u : sv_S} {b : Nat} {e : zb_EF} (hM : u.1 187 25 = zb_n b) (hf : zb_fr zb_ZE s u) : zb_CM t n base s (false, b, e) (zb_n 0, u) := ⟨rfl, zb_ZE_ZC hf, fun q => (by cases q), fun _ => hM⟩
theorem zb_M_plain {u : sv_S} {k : Nat} (hk : k < 5) (h : zb_MT t n a base u) (hf : zb_fr zb_ZE s u) : zb_W (F_Mo_takesPlain (zb_n k) u) (zb_CM t n base s (zb_sp t n (zb_nIn t n (k + 1)) a)) := by
  have hb := h.1
  unfold F_Mo_takesPlain zb_sp
  simp only [zb_lit]
  rw [zb_Mo_takes h]
  refine zb_Wbind (zb_Wsome ?_)
  by_cases q : zb_nc t n a = zb_n 32
  · have hlt := zb_nc_lt (by omega) q
    rw [if_pos q, if_pos q]
    refine zb_Wneg zb_10 ?_
    refine zb_Wbind2 (zb_Mo_takesNumber (zb_MT_at (b := a + 1) h (by omega))) (fun r hr => ?_)
    obtain ⟨r1, r2, r3, r4⟩ := hr
    have f2 : zb_fr zb_ZE s r.2 := zb_fr_trans (zb_fr_set hf rfl) (zb_fr_mono r2 (by decide))
    rw [r1]
    simp only [zb_b0]
    unfold zb_nIn
    unfold zb_no at r3 r4
    by_cases w : zb_dg (zb_nc t n (a + 1)) = true
    · rw [if_pos w] at r3 r4
      rw [if_pos w, if_neg (by rw [w]; decide)]
      refine zb_Wpos (by first | omega | (simp (disch := omega) only [zb_lit, zb_n_add, zb_n_mul, zb_n_ix, zb_n_lt, zb_n_le, zb_n_eq, zb_ib_n] <;> omega)) ?_
      refine zb_Wlet (zb_Wsome ?_)
      rw [zb_n_ix (by omega), r4 w]
      exact ⟨rfl, zb_fr_set (zb_ZE_ZC f2) rfl, fun _ => ⟨zb_MT_fr (L := [201]) r3 (zb_fr_set (zb_fr_refl _ _) rfl) (by decide), zb_EM_plain f2 hk⟩, fun q => by cases q⟩
    · have w' : zb_dg (zb_nc t n (a + 1)) = false := by simpa using w
      rw [if_neg w] at r3
      rw [if_neg w, if_pos w']
      exact zb_Wsome (zb_CM_no r3.2.2.2.1 f2)
  · rw [if_neg q, if_neg q]
    exact zb_Wpos rfl (zb_Wsome (zb_CM_no h.2.2.2.1 hf))
theorem zb_di1_rg (h : zb_dg (zb_nc t n a) = true) : 0 ≤ zb_di1 t n a ∧ zb_di1 t n a ≤ 9 ∧ zb_nc t n a - zb_n 48 = zb_n (zb_di1 t n a).toNat := by
  unfold zb_dg at h
  rw [decide_eq_true_eq] at h
  unfold zb_di1
  refine ⟨by omega, by omega, ?_⟩
  rw [zb_n_i, zb_n_i, Int.toNat_of_nonneg (by omega)]
  conv => lhs; rw [zb_i_of (zb_nc t n a)]
  rw [zb_i_sub]; rfl
theorem zb_M_most {u : sv_S} (h : zb_MT t n a base u) (hf : zb_fr zb_ZE s u) : zb_W (F_Mo_takesMost u) (zb_CM t n base s (zb_most t n a)) := by
  have hb := h.1
  unfold F_Mo_takesMost zb_most
  generalize hsp : zb_sp t n (fun a => if zb_dg (zb_nc t n a) = true then zb_sp t n (zb_nIn t n (10 + (zb_di1 t n a).toNat)) (a + 1) else (false, a, zb_z0)) a = P
  unfold zb_sp at hsp
  simp only [zb_lit]
  rw [zb_Mo_takes h]
  refine zb_Wbind (zb_Wsome ?_)
  by_cases q : zb_nc t n a = zb_n 32
  · have hlt := zb_nc_lt (by omega) q
    rw [if_pos q] at hsp
    dsimp only at hsp
    rw [if_pos q]
    refine zb_Wneg zb_10 ?_
    have h1 := zb_MT_at (b := a + 1) h (by omega)
    have f1 : zb_fr zb_ZE s (ss_setI u 187 25 (zb_n (a + 1))) := zb_fr_set hf rfl
    rw [zb_Mo_isDigit h1]
    refine zb_Wbind (zb_Wsome ?_)
    simp only [zb_b0]
    by_cases w : zb_dg (zb_nc t n (a + 1)) = true
    · have hlt2 := zb_dg_lt w
      obtain ⟨g1, g2, g3⟩ := zb_di1_rg w
      rw [if_pos w] at hsp
      rw [if_neg (by rw [w]; decide), zb_next_M h1]
      refine zb_Wbind (zb_Wsome (zb_Wlet (zb_Wlet ?_)))
      rw [g3, h1.2.2.2.1, zb_n_add]
      have h2 := zb_MT_at (b := a + 2) h1 (by omega)
      have f2 : zb_fr zb_ZE s (ss_setI (ss_setI u 187 25 (zb_n (a + 1))) 187 25 (zb_n (a + 2))) := zb_fr_set f1 rfl
      rw [zb_Mo_takes h2]
      refine zb_Wbind (zb_Wsome ?_)
      by_cases q3 : zb_nc t n (a + 2) = zb_n 32
      · have hlt3 := zb_nc_lt (by omega) q3
        rw [if_pos q3] at hsp
        rw [if_pos q3]
        refine zb_Wneg zb_10 ?_
        refine zb_Wbind2 (zb_Mo_takesNumber (zb_MT_at (b := a + 3) h2 (by omega))) (fun r hr => ?_)
        obtain ⟨r1, r2, r3, r4⟩ := hr
        have f3 : zb_fr zb_ZE s r.2 := zb_fr_trans (zb_fr_set f2 rfl) (zb_fr_mono r2 (by decide))
        rw [r1]
        simp only [zb_b0]
        unfold zb_nIn at hsp
        unfold zb_no at r3 r4
        by_cases w3 : zb_dg (zb_nc t n (a + 3)) = true
        · rw [if_pos w3] at r3 r4
          rw [if_pos w3] at hsp
          rw [if_neg (by rw [w3]; decide)]
          refine zb_Wpos (by first | omega | (simp (disch := omega) only [zb_lit, zb_n_add, zb_n_mul, zb_n_ix, zb_n_lt, zb_n_le, zb_n_eq, zb_ib_n] <;> omega)) ?_
          refine zb_Wlet (zb_Wsome ?_)
          rw [zb_n_ix (by omega), r4 w3, ← hsp]
          exact ⟨rfl, zb_fr_set (zb_ZE_ZC f3) rfl, fun _ => ⟨zb_MT_fr (L := [200]) r3 (zb_fr_set (zb_fr_refl _ _) rfl) (by decide), zb_EM_most f3 (by omega)⟩, fun q => by cases q⟩
        · have w' : zb_dg (zb_nc t n (a + 3)) = false := by simpa using w3
          rw [if_neg w3] at r3
          rw [if_neg w3] at hsp
          rw [if_pos w', ← hsp]
          exact zb_Wsome (zb_CM_no r3.2.2.2.1 f3)
      · rw [if_neg q3] at hsp
        rw [if_neg q3, ← hsp]
        exact zb_Wpos rfl (zb_Wsome (zb_CM_no h2.2.2.2.1 f2))
    · have w' : zb_dg (zb_nc t n (a + 1)) = false := by simpa using w
      rw [if_neg w] at hsp
      rw [if_pos w', ← hsp]
      exact zb_Wsome (zb_CM_no h1.2.2.2.1 f1)
  · rw [if_neg q] at hsp
    rw [if_neg q, ← hsp]
    exact zb_Wpos rfl (zb_Wsome (zb_CM_no h.2.2.2.1 hf))
theorem zb_M_g2 {u : sv_S} {g : Nat} (hg : g < 20) (h : zb_MT t n a base u) (hf : zb_fr zb_ZE s u) : zb_W (F_Mo_takesGood_b69 (zb_n g) u) (zb_CM t n base s (zb_g2 t n g a)) := by
  have hb := h.1
  unfold F_Mo_takesGood_b69 zb_g2
  generalize hsp : zb_sp t n (fun a => if zb_dg (zb_nc t n a) = true then (true, a + 1, (0, 20 + g, zb_di1 t n a, [])) else (false, a, zb_z0)) a = P
  unfold zb_sp at hsp
  simp only [zb_lit]
  rw [zb_Mo_takes h]
  refine zb_Wbind (zb_Wsome ?_)
  by_cases q : zb_nc t n a = zb_n 32
  · have hlt := zb_nc_lt (by omega) q
    rw [if_pos q] at hsp
    dsimp only at hsp
    rw [if_pos q]
    refine zb_Wneg zb_10 ?_
    have h1 := zb_MT_at (b := a + 1) h (by omega)
    have f1 : zb_fr zb_ZE s (ss_setI u 187 25 (zb_n (a + 1))) := zb_fr_set hf rfl
    rw [zb_Mo_isDigit h1]
    refine zb_Wbind (zb_Wsome ?_)
    simp only [zb_b0]
    by_cases w : zb_dg (zb_nc t n (a + 1)) = true
    · have hlt2 := zb_dg_lt w
      obtain ⟨g1, g2, g3⟩ := zb_di1_rg w
      rw [if_pos w] at hsp
      rw [if_neg (by rw [w]; decide), zb_next_M h1]
      refine zb_Wbind (zb_Wsome ?_)
      refine zb_Wpos (by first | omega | (simp (disch := omega) only [zb_lit, zb_n_add, zb_n_mul, zb_n_ix, zb_n_lt, zb_n_le, zb_n_eq, zb_ib_n] <;> omega)) ?_
      refine zb_Wlet (zb_Wlet (zb_Wsome ?_))
      have e25 : ∀ v, (ss_setI (ss_setI u 187 25 (zb_n (a + 1))) 199 g v).1 187 25 = zb_n (a + 1) := fun v => (zb_set_ne (by omega)).trans zb_set_eq
      have ei : zb_n (zb_di1 t n (a + 1)).toNat = zb_i (zb_di1 t n (a + 1)) := by rw [zb_n_i, Int.toNat_of_nonneg g1]
      rw [g3, ei, zb_n_ix (by omega), e25, zb_n_add, ← hsp]
      refine ⟨rfl, zb_fr_set (zb_fr_set (zb_ZE_ZC f1) rfl) rfl, fun _ => ⟨zb_MT_at (b := a + 1 + 1) (zb_MT_fr (L := [199]) h1 (zb_fr_set (zb_fr_refl _ _) rfl) (by decide)) (by omega), ?_⟩, fun q => by cases q⟩
      intro V sm ex hV
      exact zb_MV_fr (zb_EM_good f1 hg V sm ex hV) (zb_fr_set (zb_fr_refl _ _) rfl)
    · have w' : zb_dg (zb_nc t n (a + 1)) = false := by simpa using w
      rw [if_neg w] at hsp
      rw [if_pos w', ← hsp]
      exact zb_Wsome (zb_CM_no h1.2.2.2.1 f1)
  · rw [if_neg q] at hsp
    rw [if_neg q, ← hsp]
    exact zb_Wpos rfl (zb_Wsome (zb_CM_no h.2.2.2.1 hf))
theorem zb_M_good {u : sv_S} (h : zb_MT t n a base u) (hf : zb_fr zb_ZE s u) : zb_W (F_Mo_takesGood u) (zb_CM t n base s (zb_good t n a)) := by
  have hb := h.1
  unfold F_Mo_takesGood zb_good
  generalize hsp : zb_sp t n (fun a => if zb_dg (zb_nc t n a) = true then (if zb_di1 t n a = 1 ∧ zb_dg (zb_nc t n (a + 1)) = true then zb_g2 t n (10 + (zb_di1 t n (a + 1)).toNat) (a + 2) else zb_g2 t n (zb_di1 t n a).toNat (a + 1)) else (false, a, zb_z0)) a = P
  unfold zb_sp at hsp
  simp only [zb_lit]
  rw [zb_Mo_takes h]
  refine zb_Wbind (zb_Wsome ?_)
  by_cases q : zb_nc t n a = zb_n 32
  · have hlt := zb_nc_lt (by omega) q
    rw [if_pos q] at hsp
    dsimp only at hsp
    rw [if_pos q]
    refine zb_Wneg zb_10 ?_
    have h1 := zb_MT_at (b := a + 1) h (by omega)
    have f1 : zb_fr zb_ZE s (ss_setI u 187 25 (zb_n (a + 1))) := zb_fr_set hf rfl
    rw [zb_Mo_isDigit h1]
    refine zb_Wbind (zb_Wsome ?_)
    simp only [zb_b0]
    by_cases w : zb_dg (zb_nc t n (a + 1)) = true
    · have hlt2 := zb_dg_lt w
      obtain ⟨g1, g2, g3⟩ := zb_di1_rg w
      rw [if_pos w] at hsp
      rw [if_neg (by rw [w]; decide), zb_next_M h1]
      refine zb_Wbind (zb_Wsome (zb_Wlet (zb_Wlet ?_)))
      rw [g3, h1.2.2.2.1, zb_n_add]
      have h2 := zb_MT_at (b := a + 2) h1 (by omega)
      have f2 : zb_fr zb_ZE s (ss_setI (ss_setI u 187 25 (zb_n (a + 1))) 187 25 (zb_n (a + 2))) := zb_fr_set f1 rfl
      by_cases o1 : zb_di1 t n (a + 1) = 1
      · refine zb_Wpos (by rw [o1]; rfl) ?_
        rw [zb_Mo_isDigit h2]
        refine zb_Wbind (zb_Wsome ?_)
        simp only [zb_b0]
        by_cases w2 : zb_dg (zb_nc t n (a + 2)) = true
        · have hlt3 := zb_dg_lt w2
          obtain ⟨k1, k2, k3⟩ := zb_di1_rg w2
          rw [if_pos ⟨o1, w2⟩] at hsp
          rw [if_neg (by rw [w2]; decide), zb_next_M h2]
          refine zb_Wbind (zb_Wsome (zb_Wlet (zb_Wlet ?_)))
          have e10 : zb_n 10 + zb_nc t n (a + 2) - zb_n 48 = zb_n (10 + (zb_di1 t n (a + 2)).toNat) := by
            rw [← zb_n_add, ← k3, Int32.sub_eq_add_neg, Int32.sub_eq_add_neg, Int32.add_assoc]
          rw [e10, h2.2.2.2.1, zb_n_add, ← hsp]
          exact zb_M_g2 (by omega) (zb_MT_at (b := a + 3) h2 (by omega)) (zb_fr_set f2 rfl)
        · have w' : zb_dg (zb_nc t n (a + 2)) = false := by simpa using w2
          rw [if_neg (fun z => w2 z.2)] at hsp
          rw [if_pos w', ← hsp]
          exact zb_M_g2 (by omega) h2 f2
      · refine zb_Wneg (by rw [zb_n_eq (by omega) (by omega)]; omega) ?_
        rw [if_neg (fun z => o1 z.1)] at hsp
        rw [← hsp]
        exact zb_M_g2 (by omega) h2 f2
    · have w' : zb_dg (zb_nc t n (a + 1)) = false := by simpa using w
      rw [if_neg w] at hsp
      rw [if_pos w', ← hsp]
      exact zb_Wsome (zb_CM_no h1.2.2.2.1 f1)
  · rw [if_neg q] at hsp
    rw [if_neg q, ← hsp]
    exact zb_Wpos rfl (zb_Wsome (zb_CM_no h.2.2.2.1 hf))
end CL
