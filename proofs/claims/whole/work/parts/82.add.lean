/-! rates are added -/
def zb_RA (R : Nat → Nat → Int) (Q : Nat) (f : Nat → Int) : Nat → Nat → Int := fun r => if r = Q then f else R r
def zb_fl (l : List Int) : Nat → Int := fun k => l.getD k 0
section ADD
variable {N K td Q T W Z : Nat} {A B O ZK : Nat → Nat} {M LO LD : Nat → Int} {LE : Nat → List zb_EF} {R TK WK : Nat → Nat → Int} {s : sv_S}
variable {x1 x2 x3 x4 x5 x6 x7 : Int32} {f : Nat → Int}
theorem zb_RA_eq : zb_RA R Q f Q = f := if_pos rfl
theorem zb_RA_ne {r : Nat} (h : r ≠ Q) : zb_RA R Q f r = R r := if_neg h
theorem zb_ten {P : Nat → Prop} (h1 : P 1) (h2 : P 2) (h3 : P 3) (h4 : P 4) (h5 : P 5) (h6 : P 6) (h7 : P 7) (h8 : P 8) (h9 : P 9) (h10 : P 10) : ∀ f, 1 ≤ f → f ≤ 10 → P f := by
  intro f a b
  have : f = 1 ∨ f = 2 ∨ f = 3 ∨ f = 4 ∨ f = 5 ∨ f = 6 ∨ f = 7 ∨ f = 8 ∨ f = 9 ∨ f = 10 := by omega
  rcases this with rfl | rfl | rfl | rfl | rfl | rfl | rfl | rfl | rfl | rfl
  · exact h1
  · exact h2
  · exact h3
  · exact h4
  · exact h5
  · exact h6
  · exact h7
  · exact h8
  · exact h9
  · exact h10
theorem zb_m11_no {v : Int32} {x : Option (Int32 × sv_S)} {m : sv_S → Option (Int32 × sv_S)} (hj : zb_J s) (hx : x = some (v, s)) (hm : m s = some (v, s)) : zb_m11 x m s := by
  unfold zb_m11; rw [hx]; refine zb_Wsome ⟨zb_keep_refl s, ?_⟩; dsimp only; rw [hm]; exact zb_Wsome ⟨rfl, hj, zb_keep_refl s⟩
theorem zb_g_pence : F_X_isPence x1 x2 s = some (zb_b (decide (0 ≤ x2.toInt ∧ x2.toInt ≤ if x1 = (3 : Int32) then 99 else 9999))) := by
  unfold F_X_isPence
  have z1 : (x2 < (0 : Int32)) = (x2.toInt < 0) := by rw [show (0 : Int32) = zb_n 0 from rfl]; exact zb_c_ltn (by omega)
  have z2 : ((99 : Int32) < x2) = (99 < x2.toInt) := by rw [show (99 : Int32) = zb_n 99 from rfl]; exact zb_n_ltc (by omega)
  have z3 : ((9999 : Int32) < x2) = (9999 < x2.toInt) := by rw [show (9999 : Int32) = zb_n 9999 from rfl]; exact zb_n_ltc (by omega)
  simp only [z1, z2, z3]
  by_cases q : x2.toInt < 0
  · rw [if_pos q, decide_eq_false (by omega)]; rfl
  rw [if_neg q]
  by_cases q2 : x1 = (3 : Int32)
  · simp only [q2, if_true]
    by_cases q3 : 99 < x2.toInt
    · rw [if_pos q3, decide_eq_false (by omega)]; rfl
    · rw [if_neg q3, decide_eq_true (by omega)]; rfl
  · simp only [q2, if_false]
    by_cases q3 : 9999 < x2.toInt
    · rw [if_pos q3, decide_eq_false (by omega)]; rfl
    · rw [if_neg q3, decide_eq_true (by omega)]; rfl
theorem zb_g_full (h : zb_MX N A B M O K LO LD LE td Q R T TK W WK Z ZK s) (hQ : Q ≤ 60) : F_Rs_areFull s = some (zb_b (decide (¬ Q < 60))) := by
  unfold F_Rs_areFull
  rw [h.2.2.2.2.1.1, show (60 : Int32) = zb_n 60 from rfl]
  simp only [zb_n_lt (show Q ≤ 2147483647 by omega) (show 60 ≤ 2147483647 by omega)]
  by_cases q : Q < 60
  · rw [if_pos q, decide_eq_false (by omega)]; rfl
  · rw [if_neg q, decide_eq_true (by omega)]; rfl
theorem zb_h_full (h : zb_MM N A B M O K LO LD LE td Q R T TK W WK Z ZK s) (hQ : Q ≤ 60) : (s.1 187 32 = (60 : Int32)) = (¬ Q < 60) := by
  rw [h.2.2.2.1.1, show (60 : Int32) = zb_n 60 from rfl, zb_n_eq (by omega) (by omega)]
  exact propext (by omega)
theorem zb_MW_add (hW : zb_MW N A B M O K LO LD LE td Q R T TK W WK Z ZK) (hQ : Q < 60) (hf : zb_rok Q f) : zb_MW N A B M O K LO LD LE td (Q + 1) (zb_RA R Q f) T TK W WK Z ZK := by
  refine ⟨hW.1, by omega, fun r hr => ?_, hW.2.2.2.1, fun t ht => ?_, hW.2.2.2.2.2.1, hW.2.2.2.2.2.2.1, hW.2.2.2.2.2.2.2.1, fun z hz => ?_, hW.2.2.2.2.2.2.2.2.2⟩
  · by_cases e : r = Q
    · subst e; rw [zb_RA_eq]; exact hf
    · rw [zb_RA_ne e]; exact hW.2.2.1 r (by omega)
  · have := hW.2.2.2.2.1 t ht; unfold zb_tok at this ⊢; omega
  · have := hW.2.2.2.2.2.2.2.2.1 z hz
    rw [zb_RA_ne (by omega)]
    exact ⟨by omega, this.2⟩
def zb_LQX : List Nat := [91, 88004, 81003]
def zb_LQM : List Nat := [187032, 205, 206, 207, 208, 209, 210, 211, 212, 213, 214]
theorem zb_addX (hQ : Q < 60) (h : zb_MX N A B M O K LO LD LE td Q R T TK W WK Z ZK s) (h8 : f 8 = -1) (h9 : f 9 = 1) (h10 : f 10 = -1) : zb_W (F_Rs_add (zb_i (f 1)) (zb_i (f 2)) (zb_i (f 3)) (zb_i (f 4)) (zb_i (f 5)) (zb_i (f 6)) (zb_i (f 7)) s) (zb_did N A B M O K LO LD LE td (Q + 1) (zb_RA R Q f) T TK W WK Z ZK zb_LQX s (zb_n Q)) := by
  unfold F_Rs_add
  have e0 := h.2.2.2.2.1.1
  rw [e0, zb_n_ix (by omega)]
  refine zb_Wpos (by rw [zb_ib_n (by omega)]; omega) ?_
  simp only [ss_let]
  have c1 : ∀ k, zb_LQX.contains (zb_rg (91 + Q) k) = true := fun k => by rw [zb_rg91 hQ]; rfl
  rw [zb_m1, show (1 : Int32) = zb_n 1 from rfl]
  simp (disch := omega) only [zb_set_ne]
  rw [e0, zb_n_add, zb_n_i 1]
  have f1 : zb_fr zb_LQX s (ss_setI (ss_setI (ss_setI (ss_setI (ss_setI (ss_setI (ss_setI (ss_setI (ss_setI (ss_setI (ss_setI (ss_setI s (91 + Q) 0 (zb_n Q)) (91 + Q) 1 (zb_i (f 1))) (91 + Q) 2 (zb_i (f 2))) (91 + Q) 3 (zb_i (f 3))) (91 + Q) 4 (zb_i (f 4))) (91 + Q) 5 (zb_i (f 5))) (91 + Q) 6 (zb_i (f 6))) (91 + Q) 7 (zb_i (f 7))) (91 + Q) 8 (zb_i (-1))) (91 + Q) 9 (zb_i ((1 : Nat) : Int))) (91 + Q) 10 (zb_i (-1))) 88 4 (zb_n (Q + 1))) := zb_fr_set (zb_fr_set (zb_fr_set (zb_fr_set (zb_fr_set (zb_fr_set (zb_fr_set (zb_fr_set (zb_fr_set (zb_fr_set (zb_fr_set (zb_fr_set (zb_fr_refl _ _) (c1 _)) (c1 _)) (c1 _)) (c1 _)) (c1 _)) (c1 _)) (c1 _)) (c1 _)) (c1 _)) (c1 _)) (c1 _)) rfl
  refine zb_Wsome ⟨rfl, zb_MX_Q (by omega) h (L := [91, 88004]) ?_ (by decide) (by decide) ⟨?_, fun r hr => ?_, fun r h1 h2 => ?_⟩, zb_fr_fx f1⟩
  · have c2 : ∀ k, ([91, 88004] : List Nat).contains (zb_rg (91 + Q) k) = true := fun k => by rw [zb_rg91 hQ]; rfl
    exact zb_fr_set (zb_fr_set (zb_fr_set (zb_fr_set (zb_fr_set (zb_fr_set (zb_fr_set (zb_fr_set (zb_fr_set (zb_fr_set (zb_fr_set (zb_fr_set (zb_fr_refl _ _) (c2 _)) (c2 _)) (c2 _)) (c2 _)) (c2 _)) (c2 _)) (c2 _)) (c2 _)) (c2 _)) (c2 _)) (c2 _)) rfl
  · rw [zb_set_eq]
  · by_cases e : r = Q
    · subst e
      rw [zb_RA_eq]
      refine ⟨?_, zb_ten ?_ ?_ ?_ ?_ ?_ ?_ ?_ ?_ ?_ ?_, ?_⟩
      all_goals simp (disch := omega) only [zb_set_ne, zb_set_eq, h8, h9, h10]
      · rfl
      · rw [decide_eq_false (by omega)]; exact h.2.2.2.2.1.2.2 r (by omega) (by omega)
    · rw [zb_RA_ne e]
      have o := h.2.2.2.2.1.2.1 r (by omega)
      refine ⟨?_, fun k h1 h2 => ?_, ?_⟩
      all_goals simp (disch := omega) only [zb_set_ne]
      · exact o.1
      · exact o.2.1 k h1 h2
      · exact o.2.2
  · simp (disch := omega) only [zb_set_ne]; exact h.2.2.2.2.1.2.2 r (by omega) h2
theorem zb_stepM {α : Type} {P : α → Prop} {c : Nat} {v : Int32} {k : sv_S → Option α} (e : s.1 187 32 = zb_n Q) (hq : Q < 60) (iq : sv_ib (zb_n Q) 60 = true) (hc : c ≠ 187) (hk : ∀ w, w = ss_setI s c Q v → w.1 187 32 = zb_n Q → zb_W (k w) P) : zb_W (if sv_ib (s.1 187 32) 60 = true then ss_let (ss_setI s c (s.1 187 32).toNatClampNeg v) k else none) P := by
  rw [e]
  have q : Q ≤ 2147483647 ∨ 2147483647 < Q := by omega
  rcases q with q | q
  · rw [zb_n_ix q]
    exact zb_Wpos iq (zb_Wlet (hk _ rfl ((zb_set_ne (fun z => hc z.1.symm)).trans e)))
  · exact absurd q (by omega)
theorem zb_addM (hQ : Q < 60) (h : zb_MM N A B M O K LO LD LE td Q R T TK W WK Z ZK s) (h8 : f 8 = -1) : zb_W (F_Mo_add (zb_i (f 1)) (zb_i (f 2)) (zb_i (f 3)) (zb_i (f 4)) (zb_i (f 5)) (zb_i (f 7)) (zb_i (f 6)) (zb_i (f 9)) (zb_i (f 10)) s) (zb_didM N A B M O K LO LD LE td (Q + 1) (zb_RA R Q f) T TK W WK Z ZK zb_LQM s (zb_n Q)) := by
  unfold F_Mo_add
  have e0 := h.2.2.2.1.1
  have iq : sv_ib (zb_n Q) 60 = true := by rw [zb_ib_n (by omega)]; omega
  rw [zb_m1, show (1 : Int32) = zb_n 1 from rfl]
  refine zb_stepM e0 hQ iq (by omega) (fun w1 d1 e1 => ?_)
  refine zb_stepM e1 hQ iq (by omega) (fun w2 d2 e2 => ?_)
  refine zb_stepM e2 hQ iq (by omega) (fun w3 d3 e3 => ?_)
  refine zb_stepM e3 hQ iq (by omega) (fun w4 d4 e4 => ?_)
  refine zb_stepM e4 hQ iq (by omega) (fun w5 d5 e5 => ?_)
  refine zb_stepM e5 hQ iq (by omega) (fun w6 d6 e6 => ?_)
  refine zb_stepM e6 hQ iq (by omega) (fun w7 d7 e7 => ?_)
  refine zb_stepM e7 hQ iq (by omega) (fun w8 d8 e8 => ?_)
  refine zb_stepM e8 hQ iq (by omega) (fun w9 d9 e9 => ?_)
  refine zb_stepM e9 hQ iq (by omega) (fun w10 d10 e10 => ?_)
  refine zb_Wlet ?_
  rw [zb_set_eq, e10, zb_n_add, zb_sub1']
  subst d10 d9 d8 d7 d6 d5 d4 d3 d2 d1
  have f1 : zb_fr zb_LQM s (ss_setI (ss_setI (ss_setI (ss_setI (ss_setI (ss_setI (ss_setI (ss_setI (ss_setI (ss_setI (ss_setI s 205 Q (zb_i (f 1))) 206 Q (zb_i (f 2))) 207 Q (zb_i (f 3))) 208 Q (zb_i (f 4))) 209 Q (zb_i (f 5))) 211 Q (zb_i (f 7))) 212 Q (zb_i (-1))) 210 Q (zb_i (f 6))) 213 Q (zb_i (f 9))) 214 Q (zb_i (f 10))) 187 32 (zb_n (Q + 1))) := zb_fr_set (zb_fr_set (zb_fr_set (zb_fr_set (zb_fr_set (zb_fr_set (zb_fr_set (zb_fr_set (zb_fr_set (zb_fr_set (zb_fr_set (zb_fr_refl _ _) rfl) rfl) rfl) rfl) rfl) rfl) rfl) rfl) rfl) rfl) rfl
  refine zb_Wsome ⟨rfl, zb_MM_Q h f1 (by decide) ⟨?_, fun r hr => ?_⟩, f1⟩
  · rw [zb_set_eq]
  · by_cases e : r = Q
    · subst e
      rw [zb_RA_eq]
      refine zb_ten ?_ ?_ ?_ ?_ ?_ ?_ ?_ ?_ ?_ ?_
      all_goals simp (disch := omega) only [zb_set_ne, zb_set_eq, h8, Nat.reduceAdd]
    · rw [zb_RA_ne e]
      intro k h1 h2
      simp (disch := omega) only [zb_set_ne]
      exact h.2.2.2.1.2 r (by omega) k h1 h2
theorem zb_soonest (hQ : Q ≤ 60) (htd : td ≤ 9999) (h : zb_MX N A B M O K LO LD LE td Q R T TK W WK Z ZK s) {o : Int} (ho : -1 ≤ o) (ho5 : o ≤ 5) : zb_W (F_X_soonest (zb_i o) s) (fun r => r.1 = zb_i (td + zb_v K LO LD LE o td 3) ∧ zb_MX N A B M O K LO LD LE td Q R T TK W WK Z ZK r.2 ∧ zb_fx [81003] s r.2) := by
  unfold F_X_soonest
  rw [h.2.2.2.1, zb_n_i td, show (3 : Int32) = zb_n 3 from rfl]
  refine zb_Wbind2 (zb_value_X hQ h ho ho5 (by omega) (by omega) (by omega)) (fun r hr => zb_Wsome ⟨?_, hr.2⟩)
  dsimp only
  rw [hr.1, zb_i_add]
theorem zb_printed (htd : td ≤ 9999) (h : zb_MM N A B M O K LO LD LE td Q R T TK W WK Z ZK s) {o d : Int} (ho : -1 ≤ o) (ho5 : o ≤ 5) (hd : 0 ≤ d) (hd9 : d ≤ 9999) : zb_W (F_Mo_printed (zb_i o) (zb_i d) s) (fun r => r.1 = zb_i (if d ≤ td + zb_v K LO LD LE o td 3 then td + zb_v K LO LD LE o td 3 else d) ∧ zb_MM N A B M O K LO LD LE td Q R T TK W WK Z ZK r.2 ∧ zb_fr zb_ZL s r.2) := by
  unfold F_Mo_printed
  rw [h.2.2.1, zb_n_i td]
  refine zb_Wbind2 (zb_look h.2.1 ho ho5 (show (0 : Int) ≤ td by omega) (by omega)) (fun r hr => ?_)
  obtain ⟨f1, sm, ex, mv, _⟩ := hr
  have M1 := zb_MM_fr h f1 (by decide)
  have vr := zb_v_rg h.2.1 o td 3
  refine zb_Wpos rfl ?_
  rw [show (2 : Int32).toNatClampNeg = 2 from rfl, show r.1 201 2 = zb_i (zb_v K LO LD LE o td 3) from mv.1 2 (by omega), M1.2.2.1, zb_n_i td, zb_i_add]
  simp only [zb_i_le (show -2147483648 ≤ d by omega) (show d ≤ 2147483647 by omega) (show -2147483648 ≤ (td : Int) + zb_v K LO LD LE o td 3 by omega) (show (td : Int) + zb_v K LO LD LE o td 3 ≤ 2147483647 by omega)]
  refine zb_Wif (fun q => zb_Wpos rfl (zb_Wsome ⟨by rw [if_pos q], M1, f1⟩)) (fun q => zb_Wsome ⟨by rw [if_neg q], M1, f1⟩)
end ADD
