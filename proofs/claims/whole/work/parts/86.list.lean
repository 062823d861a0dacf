/-! list -/
section LST
variable {N K td Q T W Z : Nat} {A B O ZK : Nat → Nat} {M LO LD : Nat → Int} {LE : Nat → List zb_EF} {R TK WK : Nat → Nat → Int} {s : sv_S}
variable {x1 x2 x3 x4 x5 x6 x7 : Int32} {f : Nat → Int} {r0 k0 : Nat} {v : Int}
theorem zb_isListed (h : zb_MX N A B M O K LO LD LE td Q R T TK W WK Z ZK s) (hZ : Z ≤ 10) (hZK : ∀ z, z < Z → ZK z < 60) {r : Nat} (hr : r < 60) : zb_W (F_Wa_isListed (zb_n r) s) (fun q => (q = (0 : Int32) ∧ ∀ z, z < Z → ZK z ≠ r) ∨ (q = (1 : Int32) ∧ ∃ z, z < Z ∧ ZK z = r)) := by
  unfold F_Wa_isListed
  have row := h.2.2.2.2.2.2.2
  have key := zb_for0 (fun n k => F_Wa_isListed_b2 s n (zb_n r) (zb_n k)) Z (fun k => ∀ z, z < k → ZK z ≠ r) (Q := fun q => (q = (0 : Int32) ∧ ∀ z, z < Z → ZK z ≠ r) ∨ (q = (1 : Int32) ∧ ∃ z, z < Z ∧ ZK z = r)) (fun n hI => ?_) (fun n k hk hI ih => ?_)
  · exact key ss_F 0 (by omega) (by unfold ss_F; omega) (fun z hz => absurd hz (by omega))
  · rw [F_Wa_isListed_b2]
    dsimp only
    rw [row.1]
    exact zb_Wpos (by rw [zb_n_le (by omega) (by omega)]; omega) (zb_Wsome (Or.inl ⟨rfl, hI⟩))
  · rw [F_Wa_isListed_b2]
    dsimp only
    rw [row.1]
    refine zb_Wneg (by rw [zb_n_le (by omega) (by omega)]; omega) (zb_Wpos (by rw [zb_ib_n (by omega)]; omega) ?_)
    rw [zb_n_ix (by omega), row.2 k hk]
    have := hZK k hk
    by_cases e : ZK k = r
    · exact zb_Wpos (by rw [e]) (zb_Wsome (Or.inr ⟨rfl, k, hk, e⟩))
    · refine zb_Wneg (by rw [zb_n_eq (by omega) (by omega)]; exact e) (zb_Wlet ?_)
      rw [show (1 : Int32) = zb_n 1 from rfl, zb_n_add]
      exact ih (fun z hz => by by_cases e2 : z = k; rw [e2]; exact e; exact hI z (by omega))
theorem zb_listM {P : Int32 × sv_S → Prop} (h : zb_MM N A B M O K LO LD LE td Q R T TK W WK Z ZK s) (hZ : Z ≤ 10) (hZK : ∀ z, z < Z → ZK z < 60) {r : Nat} (hr : r < 60) (hl : (∃ z, z < Z ∧ ZK z = r) → P ((-3 : Int32), s)) (hn : (∀ z, z < Z → ZK z ≠ r) → ∀ n, zb_W (F_Mo_list_b12 (n + 1) (zb_n r) (zb_n Z) s) P) : zb_W (F_Mo_list_b12 ss_F (zb_n r) (0 : Int32) s) P := by
  have row := h.2.2.2.2.2.2
  have key := zb_for0 (fun n k => F_Mo_list_b12 n (zb_n r) (zb_n k) s) Z (fun k => ∀ z, z < k → ZK z ≠ r) (Q := P) (fun n hI => ?_) (fun n k hk hI ih => ?_)
  · exact key ss_F 0 (by omega) (by unfold ss_F; omega) (fun z hz => absurd hz (by omega))
  · exact hn hI n
  · rw [F_Mo_list_b12]
    dsimp only
    rw [row.1]
    refine zb_Wneg (by rw [zb_n_le (by omega) (by omega)]; omega) (zb_Wpos (by rw [zb_ib_n (by omega)]; omega) ?_)
    rw [zb_n_ix (by omega), row.2 k hk]
    have := hZK k hk
    by_cases e : ZK k = r
    · exact zb_Wpos (by rw [e]) (zb_Wsome (hl ⟨k, hk, e⟩))
    · refine zb_Wneg (by rw [zb_n_eq (by omega) (by omega)]; exact e) (zb_Wlet ?_)
      rw [show (1 : Int32) = zb_n 1 from rfl, zb_n_add]
      exact ih (fun z hz => by by_cases e2 : z = k; rw [e2]; exact e; exact hI z (by omega))
theorem zb_c_list (h : zb_J s) : zb_m11 (F_X_list x1 s) (F_Mo_list x1) s := by
  obtain ⟨N, A, B, M, O, K, LO, LD, LE, td, Q, R, T, TK, W, WK, Z, ZK, h⟩ := h
  have hj := zb_J_of h
  have h0 := h
  obtain ⟨hW, hM, hX, hO, hB⟩ := h
  have hQ := hW.2.1
  have hL := zb_RM_RL hM.1
  obtain ⟨_, _, _, _, _, _, _, hZ, hZK, hZi⟩ := id hW
  have hZ6 : ∀ z, z < Z → ZK z < 60 := fun z hz => by have := (hZK z hz).1; omega
  by_cases q1 : 0 ≤ x1.toInt ∧ x1.toInt < Q
  rotate_left
  · refine zb_m11_no (v := (-1 : Int32)) hj ?_ ?_
    · unfold F_X_list; rw [zb_g_rate hX hQ, Option.bind_some, if_pos (zb_bF q1)]
    · unfold F_Mo_list; rw [zb_h_rate hM hQ, Option.bind_some, if_pos (zb_bF q1)]
  obtain ⟨r, hr, rfl⟩ := zb_an3 q1
  have rk := hW.2.2.1 r hr
  obtain ⟨a1, a2, a3, a4, _⟩ := id rk
  have ir : sv_ib (zb_n r) 60 = true := by rw [zb_ib_n (by omega)]; omega
  have z3 : ∀ y : Int32, y = zb_i (R r 1) → ((y = (3 : Int32)) = (R r 1 = 3)) := fun y hy => by rw [hy, show (3 : Int32) = zb_i 3 from zb_n_i 3]; exact zb_i_eq (by omega) (by omega) (by omega) (by omega)
  have kn := zb_kn_rg rk
  have z6 : (zb_i (zb_kn (R r)) = (6 : Int32)) = (zb_kn (R r) = 6) := by rw [show (6 : Int32) = zb_i 6 from zb_n_i 6]; exact zb_i_eq (by omega) (by omega) (by omega) (by omega)
  have D := zb_D_rg hL (-1) (a := (R r 3).toNat) (b := (R r 4).toNat) (by omega) (by omega)
  have bX : F_Ro_between (-1 : Int32) (s.1 (91 + r) 3) (s.1 (91 + r) 4) s = some (zb_i (if zb_D N A B M O (-1) (R r 3).toNat (R r 4).toNat < 100000 then zb_D N A B M O (-1) (R r 3).toNat (R r 4).toNat else -1)) := by
    rw [zb_fld hX hr (f := 3) (by omega) (by omega), zb_fld hX hr (f := 4) (by omega) (by omega), zb_m1, zb_in_n a3.1, zb_in_n a4.1]
    exact zb_between hL hX.1 (by omega) (by omega) (by omega) (by omega)
  have bM : ∀ u, zb_MM N A B M O K LO LD LE td Q R T TK W WK Z ZK u → zb_W (F_Mo_milesBy (-1 : Int32) (u.1 207 r) (u.1 208 r) u) (fun t => zb_fr [192, 193] u t.2 ∧ t.1 = zb_i (if zb_D N A B M O (-1) (R r 3).toNat (R r 4).toNat < 100000 then zb_D N A B M O (-1) (R r 3).toNat (R r 4).toNat else -3)) := by
    intro u hu
    rw [zb_fldM hu.2.2.2.1 hr (f := 3) (c := 207) (by omega) (by omega) rfl, zb_fldM hu.2.2.2.1 hr (f := 4) (c := 208) (by omega) (by omega) rfl, zb_m1, zb_in_n a3.1, zb_in_n a4.1]
    exact zb_milesBy hu (by omega) (by omega) (by omega) (by omega)
  generalize hD0 : zb_D N A B M O (-1) (R r 3).toNat (R r 4).toNat = D0 at D bX bM
  have xs : ∀ (P : Int32 × sv_S → Prop), ((∃ z, z < Z ∧ ZK z = r) → P ((-3 : Int32), s)) → ((∀ z, z < Z → ZK z ≠ r) → zb_W (if (s.1 (91 + r) 11) = 0 then if (s.1 (91 + r) 1) = (3 : Int32) then some ((-3 : Int32), s) else (F_Ro_between (-1 : Int32) (s.1 (91 + r) 3) (s.1 (91 + r) 4) s).bind fun r5 => if 0 ≤ r5 then (F_Wa_listIsFull s).bind fun r6 => if r6 = 0 then (F_Wa_enlist (zb_n r) s).bind fun r7 => some (r7.1, r7.2) else some ((-4 : Int32), s) else some ((-3 : Int32), s) else some ((-3 : Int32), s)) P) → zb_W (F_X_list (zb_n r) s) P := by
    intro P h1 h2
    unfold F_X_list
    rw [zb_g_rate hX hQ, Option.bind_some, if_neg (zb_bT q1), zb_row (by omega), Option.bind_some, if_pos (zb_ok91 (by omega))]
    refine zb_Wbind2 (zb_isListed hX hZ hZ6 (show r < 60 by omega)) (fun q hq => ?_)
    rcases hq with ⟨rfl, hq⟩ | ⟨rfl, hq⟩
    · exact zb_Wpos rfl (h2 hq)
    · exact zb_Wneg (by decide) (zb_Wsome (h1 hq))
  have ms : ∀ u, zb_MM N A B M O K LO LD LE td Q R T TK W WK Z ZK u → ∀ (P : Int32 × sv_S → Prop), ((∃ z, z < Z ∧ ZK z = r) → P ((-3 : Int32), u)) → ((∀ z, z < Z → ZK z ≠ r) → ∀ n, zb_W (F_Mo_list_b12 (n + 1) (zb_n r) (zb_n Z) u) P) → zb_W (F_Mo_list (zb_n r) u) P := by
    intro u hu P h1 h2
    unfold F_Mo_list
    rw [zb_h_rate hu hQ, Option.bind_some, if_neg (zb_bT q1)]
    exact zb_listM hu hZ hZ6 (by omega) h1 h2
  -- the model's list, when the loop is done
  have me : ∀ u, zb_MM N A B M O K LO LD LE td Q R T TK W WK Z ZK u → ∀ n, F_Mo_list_b12 (n + 1) (zb_n r) (zb_n Z) u = if zb_kn (R r) = 6 then some ((-3 : Int32), u) else if R r 1 = 3 then some ((-3 : Int32), u) else (F_Mo_milesBy (-1 : Int32) (u.1 207 r) (u.1 208 r) u).bind fun r3 => if 0 ≤ r3.1 then if (r3.2.1 187 69) = (10 : Int32) then some ((-4 : Int32), r3.2) else if sv_ib (r3.2.1 187 69) 10 = true then ss_let (ss_setI r3.2 235 (r3.2.1 187 69).toNatClampNeg (zb_n r)) fun s4 => ss_let (ss_setI s4 187 69 ((s4.1 187 69) + (1 : Int32))) fun s5 => some (s5.1 187 69, s5) else none else some ((-3 : Int32), r3.2) := by
    intro u hu n
    rw [F_Mo_list_b12]
    dsimp only
    rw [hu.2.2.2.2.2.2.1, if_pos (by rw [zb_n_le (by omega) (by omega)]; omega), zb_kind_M hW hu hr, Option.bind_some, zb_n_ix (by omega)]
    simp only [z6, ir, if_true]
    simp only [z3 _ (zb_fldM hu.2.2.2.1 hr (f := 1) (c := 205) (by omega) (by omega) rfl)]
  by_cases w0 : ∃ z, z < Z ∧ ZK z = r
  · refine zb_m11_ch (v := (-3 : Int32)) (LX := []) (LM := []) h0 hW (xs _ (fun _ => ⟨rfl, hX, zb_fr_fx (zb_fr_refl _ _)⟩) (fun n => absurd w0 (fun ⟨z, a, b⟩ => n z a b))) (fun u hu => ms u hu _ (fun _ => ⟨rfl, hu, zb_fr_refl _ _⟩) (fun n => absurd w0 (fun ⟨z, a, b⟩ => n z a b))) (by decide) (by decide) (by decide)
  have no : ∀ (h1 : (zb_kn (R r) = 6 ∨ R r 1 = 3) ∨ ¬ D0 < 100000), zb_m11 (F_X_list (zb_n r) s) (F_Mo_list (zb_n r)) s := by
    intro h1
    refine zb_m11_ch (v := (-3 : Int32)) (LX := []) (LM := [192, 193]) h0 hW (xs _ (fun z => absurd z w0) (fun _ => ?_)) (fun u hu => ms u hu _ (fun z => absurd z w0) (fun _ n => ?_)) (by decide) (by decide) (by decide)
    · have ok : zb_did N A B M O K LO LD LE td Q R T TK W WK Z ZK [] s (-3 : Int32) ((-3 : Int32), s) := ⟨rfl, hX, zb_fr_fx (zb_fr_refl _ _)⟩
      rw [(hX.2.2.2.2.1.2.1 r hr).2.2]
      refine zb_Wif (fun g => zb_Wif (fun _ => zb_Wsome ok) (fun g2 => ?_)) (fun _ => zb_Wsome ok)
      rw [bX]
      refine zb_Wbind (zb_Wsome (zb_Wneg ?_ (zb_Wsome ok)))
      rw [z3 _ (zb_fld hX hr (by omega) (by omega))] at g2
      have g3 : ¬ 0 ≤ R r 8 := fun z => zb_bT z g
      have : ¬ D0 < 100000 := by
        rcases h1 with (h1 | h1) | h1
        · unfold zb_kn at h1; rw [if_neg g3] at h1; exact absurd h1 (by omega)
        · exact absurd h1 g2
        · exact h1
      rw [if_neg this]; decide
    · rw [me u hu n]
      have ok : zb_didM N A B M O K LO LD LE td Q R T TK W WK Z ZK [192, 193] u (-3 : Int32) ((-3 : Int32), u) := ⟨rfl, hu, zb_fr_refl _ _⟩
      refine zb_Wif (fun _ => zb_Wsome ok) (fun g1 => zb_Wif (fun _ => zb_Wsome ok) (fun g2 => ?_))
      have : ¬ D0 < 100000 := by
        rcases h1 with (h1 | h1) | h1
        · exact absurd h1 g1
        · exact absurd h1 g2
        · exact h1
      refine zb_Wbind2 (bM u hu) (fun q hq => ?_)
      obtain ⟨b1, b2⟩ := hq
      rw [if_neg this] at b2
      refine zb_Wneg (by rw [b2]; decide) (zb_Wsome ⟨rfl, zb_MM_fr hu b1 (by decide), b1⟩)
  by_cases w1 : zb_kn (R r) = 6
  · exact no (Or.inl (Or.inl w1))
  by_cases w2 : R r 1 = 3
  · exact no (Or.inl (Or.inr w2))
  by_cases w3 : D0 < 100000
  rotate_left
  · exact no (Or.inr w3)
  have w8 : ¬ 0 ≤ R r 8 := fun z => w1 (by unfold zb_kn; rw [if_pos z])
  rw [if_pos w3] at bX
  simp only [w3, if_true] at bM
  have xs2 : ∀ (P : Int32 × sv_S → Prop), zb_W ((F_Wa_listIsFull s).bind fun r6 => if r6 = 0 then (F_Wa_enlist (zb_n r) s).bind fun r7 => some (r7.1, r7.2) else some ((-4 : Int32), s)) P → zb_W (F_X_list (zb_n r) s) P := by
    intro P hp
    refine xs P (fun z => absurd z w0) (fun _ => ?_)
    rw [(hX.2.2.2.2.1.2.1 r hr).2.2, if_pos (zb_bF w8), if_neg (by rw [z3 _ (zb_fld hX hr (by omega) (by omega))]; exact w2), bX, Option.bind_some, if_pos (zb_ge0 D.1 (by omega))]
    exact hp
  have rowX := hX.2.2.2.2.2.2.2
  have zf : ∀ y : Int32, y = zb_n Z → ((y = (10 : Int32)) = (Z = 10)) := fun y hy => by rw [hy, show (10 : Int32) = zb_n 10 from rfl, zb_n_eq (by omega) (by omega)]
  by_cases w4 : Z < 10
  rotate_left
  · refine zb_m11_ch (v := (-4 : Int32)) (LX := []) (LM := [192, 193]) h0 hW (xs2 _ ?_) (fun u hu => ms u hu _ (fun z => absurd z w0) (fun _ n => ?_)) (by decide) (by decide) (by decide)
    · unfold F_Wa_listIsFull
      rw [rowX.1, if_neg (by rw [show (10 : Int32) = zb_n 10 from rfl, zb_n_lt (by omega) (by omega)]; omega), Option.bind_some, if_neg (by decide)]
      exact zb_Wsome ⟨rfl, hX, zb_fr_fx (zb_fr_refl _ _)⟩
    · rw [me u hu n, if_neg w1, if_neg w2]
      refine zb_Wbind2 (bM u hu) (fun q hq => ?_)
      obtain ⟨b1, b2⟩ := hq
      have M1 := zb_MM_fr hu b1 (by decide)
      rw [b2, if_pos (zb_ge0 D.1 (by omega))]
      exact zb_Wpos (by rw [zf _ M1.2.2.2.2.2.2.1]; omega) (zb_Wsome ⟨rfl, M1, b1⟩)
  have W1 : zb_MW N A B M O K LO LD LE td Q R T TK W WK (Z + 1) (fun z => if z = Z then r else ZK z) := by
    refine ⟨hW.1, hW.2.1, hW.2.2.1, hW.2.2.2.1, hW.2.2.2.2.1, hW.2.2.2.2.2.1, hW.2.2.2.2.2.2.1, by omega, fun z hz => ?_, fun z y hz hy e => ?_⟩
    · by_cases e : z = Z
      · simp only [e, if_true]; exact ⟨hr, w2, by rw [hD0]; exact w3⟩
      · simp only [e, if_false]; exact hZK z (by omega)
    · by_cases e1 : z = Z
      · by_cases e2 : y = Z
        · omega
        · simp only [e1, if_true, e2, if_false] at e; exact absurd ⟨y, by omega, e.symm⟩ w0
      · by_cases e2 : y = Z
        · simp only [e1, if_false, e2, if_true] at e; exact absurd ⟨z, by omega, e⟩ w0
        · simp only [e1, if_false, e2] at e; exact hZi z y (by omega) (by omega) e
  refine zb_m11_ch (v := zb_n (Z + 1)) (LX := [163014, 169]) (LM := [192, 193, 187069, 235]) h0 W1 (xs2 _ ?_) (fun u hu => ms u hu _ (fun z => absurd z w0) (fun _ n => ?_)) (by decide) (by decide) (by decide)
  · unfold F_Wa_listIsFull F_Wa_enlist
    rw [rowX.1, if_pos (by rw [show (10 : Int32) = zb_n 10 from rfl, zb_n_lt (by omega) (by omega)]; omega), Option.bind_some, if_pos rfl, zb_n_ix (by omega), show (1 : Int32) = zb_n 1 from rfl, zb_n_add]
    refine zb_Wbind (zb_Wlet (zb_Wpos (by rw [zb_ib_n (by omega)]; omega) (zb_Wlet (zb_Wsome (zb_Wsome ?_)))))
    have g1 : zb_fr [163014, 169] s (ss_setI (ss_setI s 163 14 (zb_n (Z + 1))) 169 Z (zb_n r)) := zb_fr_set (zb_fr_set (zb_fr_refl _ _) rfl) rfl
    refine ⟨?_, zb_MX_Z hQ hX g1 (by decide) (by decide) ⟨?_, fun z hz => ?_⟩, zb_fr_fx g1⟩
    · dsimp only; rw [zb_set_ne (by omega), zb_set_eq]
    · rw [zb_set_ne (by omega), zb_set_eq]
    · by_cases e : z = Z
      · simp only [e, if_true]; rw [zb_set_eq]
      · simp only [e, if_false]; rw [zb_set_ne (by omega), zb_set_ne (by omega)]; exact rowX.2 z (by omega)
  · rw [me u hu n, if_neg w1, if_neg w2]
    refine zb_Wbind2 (bM u hu) (fun q hq => ?_)
    obtain ⟨b1, b2⟩ := hq
    have M1 := zb_MM_fr hu b1 (by decide)
    have rowM := M1.2.2.2.2.2.2
    rw [b2, if_pos (zb_ge0 D.1 (by omega)), rowM.1, zb_n_ix (by omega)]
    refine zb_Wneg (by rw [zf _ rfl]; omega) (zb_Wpos (by rw [zb_ib_n (by omega)]; omega) (zb_Wlet (zb_Wlet (zb_Wsome ?_))))
    have e235 : (ss_setI q.2 235 Z (zb_n r)).1 187 69 = zb_n Z := (zb_set_ne (by omega)).trans rowM.1
    rw [e235, show (1 : Int32) = zb_n 1 from rfl, zb_n_add]
    have g1 : zb_fr [192, 193, 187069, 235] q.2 (ss_setI (ss_setI q.2 235 Z (zb_n r)) 187 69 (zb_n (Z + 1))) := zb_fr_set (zb_fr_set (zb_fr_refl _ _) rfl) rfl
    refine ⟨?_, zb_MM_Z M1 g1 (by decide) ⟨?_, fun z hz => ?_⟩, zb_fr_trans (zb_fr_mono b1 (by decide)) g1⟩
    · dsimp only; rw [zb_set_eq]
    · rw [zb_set_eq]
    · by_cases e : z = Z
      · simp only [e, if_true]; rw [zb_set_ne (by omega), zb_set_eq]
      · simp only [e, if_false]; rw [zb_set_ne (by omega), zb_set_ne (by omega)]; exact rowM.2 z (by omega)
end LST
