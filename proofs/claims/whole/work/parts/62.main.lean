/-! the whole state: what both sides hold -/
/-- a sound rate: 1 kind, 2 owner, 3 from, 4 to, 5 pence, 6 class or good, 7 since, 8 until, 9 least, 10 instead of -/
def zb_rok (r : Nat) (f : Nat → Int) : Prop :=
  (0 ≤ f 1 ∧ f 1 ≤ 5) ∧ (0 ≤ f 2 ∧ f 2 ≤ 5) ∧ (0 ≤ f 3 ∧ f 3 ≤ 15) ∧ (0 ≤ f 4 ∧ f 4 ≤ 15) ∧ f 3 ≠ f 4 ∧ (0 ≤ f 5 ∧ f 5 ≤ 9999 ∧ (f 1 = 3 → f 5 ≤ 99)) ∧ (0 ≤ f 6 ∧ f 6 ≤ 19 ∧ (f 1 ≠ 2 → f 6 ≤ 9)) ∧ (0 ≤ f 7 ∧ f 7 ≤ 19998) ∧ (-1 ≤ f 8 ∧ f 8 ≤ 9999) ∧ (1 ≤ f 9 ∧ f 9 ≤ 99 ∧ (f 1 ≠ 2 → f 9 = 1)) ∧ (-1 ≤ f 10 ∧ f 10 < r ∧ (f 1 = 5 → 0 ≤ f 10))
def zb_QM (Q : Nat) (R : Nat → Nat → Int) (s : sv_S) : Prop := s.1 187 32 = zb_n Q ∧ ∀ r, r < Q → ∀ f, 1 ≤ f → f ≤ 10 → s.1 (204 + f) r = zb_i (R r f)
def zb_QX (Q : Nat) (R : Nat → Nat → Int) (s : sv_S) : Prop := s.1 88 4 = zb_n Q ∧ (∀ r, r < Q → s.1 (91 + r) 0 = zb_n r ∧ (∀ f, 1 ≤ f → f ≤ 10 → s.1 (91 + r) f = zb_i (R r f)) ∧ s.1 (91 + r) 11 = zb_b (decide (0 ≤ R r 8))) ∧ ∀ r, Q ≤ r → r < 60 → s.1 (91 + r) 11 = zb_n 0
def zb_row5 (c0 c k0 : Nat) (T : Nat) (TK : Nat → Nat → Int) (s : sv_S) : Prop := s.1 c0 k0 = zb_n T ∧ ∀ t, t < T → ∀ f, f < 5 → s.1 (c + f) t = zb_i (TK t f)
def zb_row1 (c0 c k0 : Nat) (Z : Nat) (ZK : Nat → Nat) (s : sv_S) : Prop := s.1 c0 k0 = zb_n Z ∧ ∀ z, z < Z → s.1 c z = zb_n (ZK z)
def zb_MM (N : Nat) (A B : Nat → Nat) (M : Nat → Int) (O : Nat → Nat) (K : Nat) (LO LD : Nat → Int) (LE : Nat → List zb_EF) (td Q : Nat) (R : Nat → Nat → Int) (T : Nat) (TK : Nat → Nat → Int) (W : Nat) (WK : Nat → Nat → Int) (Z : Nat) (ZK : Nat → Nat) (s : sv_S) : Prop := zb_RM N A B M O s ∧ zb_LM K LO LD LE s ∧ s.1 187 0 = zb_n td ∧ zb_QM Q R s ∧ zb_row5 187 222 50 T TK s ∧ zb_row5 187 230 63 W WK s ∧ zb_row1 187 235 69 Z ZK s
def zb_MX (N : Nat) (A B : Nat → Nat) (M : Nat → Int) (O : Nat → Nat) (K : Nat) (LO LD : Nat → Int) (LE : Nat → List zb_EF) (td Q : Nat) (R : Nat → Nat → Int) (T : Nat) (TK : Nat → Nat → Int) (W : Nat) (WK : Nat → Nat → Int) (Z : Nat) (ZK : Nat → Nat) (s : sv_S) : Prop := zb_RX N A B M O s ∧ zb_LX K LO LD LE s ∧ zb_SS s ∧ s.1 64 9 = zb_n td ∧ zb_QX Q R s ∧ zb_row5 151 152 10 T TK s ∧ zb_row5 163 164 13 W WK s ∧ zb_row1 163 169 14 Z ZK s
/-- a sound truck: rate, good, tons, paid, day; a sound want: from, to, good, tons, pence -/
def zb_tok (Q td : Nat) (f : Nat → Int) : Prop := (0 ≤ f 0 ∧ f 0 < Q) ∧ (0 ≤ f 1 ∧ f 1 ≤ 19) ∧ (1 ≤ f 2 ∧ f 2 ≤ 99) ∧ (0 ≤ f 3 ∧ f 3 ≤ 99999) ∧ (0 ≤ f 4 ∧ f 4 ≤ td)
def zb_wok (f : Nat → Int) : Prop := (0 ≤ f 0 ∧ f 0 ≤ 15) ∧ (0 ≤ f 1 ∧ f 1 ≤ 15) ∧ f 0 ≠ f 1 ∧ (0 ≤ f 2 ∧ f 2 ≤ 19) ∧ (1 ≤ f 3 ∧ f 3 ≤ 99) ∧ (0 ≤ f 4 ∧ f 4 ≤ 999)
def zb_MW (N : Nat) (A B : Nat → Nat) (M : Nat → Int) (O : Nat → Nat) (K : Nat) (LO LD : Nat → Int) (LE : Nat → List zb_EF) (td Q : Nat) (R : Nat → Nat → Int) (T : Nat) (TK : Nat → Nat → Int) (W : Nat) (WK : Nat → Nat → Int) (Z : Nat) (ZK : Nat → Nat) : Prop := td ≤ 9999 ∧ Q ≤ 60 ∧ (∀ r, r < Q → zb_rok r (R r)) ∧ T ≤ 80 ∧ (∀ t, t < T → zb_tok Q td (TK t)) ∧ W ≤ 20 ∧ (∀ w, w < W → zb_wok (WK w)) ∧ Z ≤ 10 ∧ (∀ z, z < Z → ZK z < Q ∧ R (ZK z) 1 ≠ 3 ∧ zb_D N A B M O (-1) (R (ZK z) 3).toNat (R (ZK z) 4).toNat < 100000) ∧ ∀ z y, z < Z → y < Z → ZK z = ZK y → z = y
/-- the model's rows that last -/
def zb_PM : List Nat := [187001, 188, 189, 190, 191, 187010, 195, 196, 197, 198, 187000, 187032, 205, 206, 207, 208, 209, 210, 211, 212, 213, 214, 187050, 222, 223, 224, 225, 226, 187063, 230, 231, 232, 233, 234, 187069, 235]
/-- the class's -/
def zb_PX : List Nat := [65004, 66, 67, 68, 70, 81003, 81004, 85000, 85001, 85002, 84, 243, 64009, 88004, 91, 151010, 152, 153, 154, 155, 156, 163013, 164, 165, 166, 167, 168, 163014, 169]
section MAIN
variable {N K td Q T W Z : Nat} {A B O ZK : Nat → Nat} {M LO LD : Nat → Int} {LE : Nat → List zb_EF} {R TK WK : Nat → Nat → Int} {s : sv_S}
theorem zb_no_in {P L : List Nat} (h : P.all (fun x => !L.contains x) = true) {x : Nat} (hx : x ∈ P) : L.contains x = false := by
  have := List.all_eq_true.mp h x hx; simpa using this
theorem zb_all_sub {P P' L : List Nat} (h : P.all (fun x => !L.contains x) = true) (hs : ∀ x, x ∈ P' → P.contains x = true) : P'.all (fun x => !L.contains x) = true := by
  rw [List.all_eq_true]; intro x hx; rw [zb_no_in h (List.contains_iff_mem.mp (hs x hx))]; rfl
theorem zb_rg91 {r k : Nat} (h : r < 60) : zb_rg (91 + r) k = 91 := by
  unfold zb_rg
  have : zb_ob.contains (91 + r) = false := by
    cases e : zb_ob.contains (91 + r) with
    | false => rfl
    | true =>
      have := List.contains_iff_mem.mp e
      unfold zb_ob at this
      simp at this; omega
  rw [this, if_neg (by decide), if_pos (by omega)]
theorem zb_rgc {c k : Nat} (h1 : zb_ob.contains c = false) (h2 : 187 < c ∨ c = 152 ∨ c = 153 ∨ c = 154 ∨ c = 155 ∨ c = 156 ∨ c = 164 ∨ c = 165 ∨ c = 166 ∨ c = 167 ∨ c = 168) (h3 : c < 243) : zb_rg c k = c := by
  unfold zb_rg
  rw [h1, if_neg (by decide), if_neg (by omega), if_neg (by omega), if_neg (by omega), if_neg (by omega)]
theorem zb_QM_fr {L : List Nat} {u : sv_S} (h : zb_QM Q R s) (hf : zb_fr L s u) (hL : zb_PM.all (fun x => !L.contains x) = true) : zb_QM Q R u := by
  refine ⟨(hf.1 187 32 (zb_no_in hL (x := 187032) (by decide))).trans h.1, fun r hr f h1 h2 => (hf.1 _ _ ?_).trans (h.2 r hr f h1 h2)⟩
  have : f = 1 ∨ f = 2 ∨ f = 3 ∨ f = 4 ∨ f = 5 ∨ f = 6 ∨ f = 7 ∨ f = 8 ∨ f = 9 ∨ f = 10 := by omega
  rcases this with rfl | rfl | rfl | rfl | rfl | rfl | rfl | rfl | rfl | rfl
  · exact zb_no_in hL (x := 205) (by decide)
  · exact zb_no_in hL (x := 206) (by decide)
  · exact zb_no_in hL (x := 207) (by decide)
  · exact zb_no_in hL (x := 208) (by decide)
  · exact zb_no_in hL (x := 209) (by decide)
  · exact zb_no_in hL (x := 210) (by decide)
  · exact zb_no_in hL (x := 211) (by decide)
  · exact zb_no_in hL (x := 212) (by decide)
  · exact zb_no_in hL (x := 213) (by decide)
  · exact zb_no_in hL (x := 214) (by decide)
theorem zb_QX_fx {L : List Nat} {u : sv_S} (hQ : Q ≤ 60) (h : zb_QX Q R s) (hf : zb_fx L s u) (h1 : L.contains 88004 = false) (h2 : L.contains 91 = false) : zb_QX Q R u := by
  have k : ∀ r f, r < 60 → u.1 (91 + r) f = s.1 (91 + r) f := fun r f hr => hf.1 _ _ (by rw [zb_rg91 hr]; exact h2)
  refine ⟨(hf.1 88 4 h1).trans h.1, fun r hr => ⟨(k r 0 (by omega)).trans (h.2.1 r hr).1, fun f a b => (k r f (by omega)).trans ((h.2.1 r hr).2.1 f a b), (k r 11 (by omega)).trans (h.2.1 r hr).2.2⟩, fun r a b => (k r 11 b).trans (h.2.2 r a b)⟩
theorem zb_row5_fx {L : List Nat} {u : sv_S} {c0 c k0 : Nat} (h : zb_row5 c0 c k0 T TK s) (hf : ∀ a j, L.contains (zb_rg a j) = false → u.1 a j = s.1 a j) (h0 : L.contains (zb_rg c0 k0) = false) (h1 : ∀ f k, f < 5 → L.contains (zb_rg (c + f) k) = false) : zb_row5 c0 c k0 T TK u :=
  ⟨(hf c0 k0 h0).trans h.1, fun t ht f hf5 => (hf _ _ (h1 f t hf5)).trans (h.2 t ht f hf5)⟩
theorem zb_row1_fx {L : List Nat} {u : sv_S} {c0 c k0 : Nat} (h : zb_row1 c0 c k0 Z ZK s) (hf : ∀ a j, L.contains (zb_rg a j) = false → u.1 a j = s.1 a j) (h0 : L.contains (zb_rg c0 k0) = false) (h1 : ∀ k, L.contains (zb_rg c k) = false) : zb_row1 c0 c k0 Z ZK u :=
  ⟨(hf c0 k0 h0).trans h.1, fun z hz => (hf _ _ (h1 z)).trans (h.2 z hz)⟩
theorem zb_five {P : Nat → Prop} (h0 : P 0) (h1 : P 1) (h2 : P 2) (h3 : P 3) (h4 : P 4) : ∀ f, f < 5 → P f := by
  intro f hf
  have : f = 0 ∨ f = 1 ∨ f = 2 ∨ f = 3 ∨ f = 4 := by omega
  rcases this with rfl | rfl | rfl | rfl | rfl
  · exact h0
  · exact h1
  · exact h2
  · exact h3
  · exact h4
theorem zb_MM_fr {L : List Nat} {u : sv_S} (h : zb_MM N A B M O K LO LD LE td Q R T TK W WK Z ZK s) (hf : zb_fr L s u) (hL : zb_PM.all (fun x => !L.contains x) = true) : zb_MM N A B M O K LO LD LE td Q R T TK W WK Z ZK u := by
  obtain ⟨h1, h2, h3, h4, h5, h6, h7⟩ := h
  refine ⟨zb_RM_fr h1 hf (zb_all_sub hL (by decide)), zb_LM_fr h2 hf (zb_all_sub hL (by decide)), (hf.1 187 0 (zb_no_in hL (x := 187000) (by decide))).trans h3, zb_QM_fr h4 hf hL, zb_row5_fx h5 hf.1 (zb_no_in hL (x := 187050) (by decide)) (fun f k => zb_five (P := fun f => L.contains (zb_rg (222 + f) k) = false) ?_ ?_ ?_ ?_ ?_ f), zb_row5_fx h6 hf.1 (zb_no_in hL (x := 187063) (by decide)) (fun f k => zb_five (P := fun f => L.contains (zb_rg (230 + f) k) = false) ?_ ?_ ?_ ?_ ?_ f), zb_row1_fx h7 hf.1 (zb_no_in hL (x := 187069) (by decide)) (fun k => zb_no_in hL (x := 235) (by decide))⟩
  · exact zb_no_in hL (x := 222) (by decide)
  · exact zb_no_in hL (x := 223) (by decide)
  · exact zb_no_in hL (x := 224) (by decide)
  · exact zb_no_in hL (x := 225) (by decide)
  · exact zb_no_in hL (x := 226) (by decide)
  · exact zb_no_in hL (x := 230) (by decide)
  · exact zb_no_in hL (x := 231) (by decide)
  · exact zb_no_in hL (x := 232) (by decide)
  · exact zb_no_in hL (x := 233) (by decide)
  · exact zb_no_in hL (x := 234) (by decide)
/-- all of the class's but the laws -/
theorem zb_MX_rest {L : List Nat} {u : sv_S} (hQ : Q ≤ 60) (h : zb_MX N A B M O K LO LD LE td Q R T TK W WK Z ZK s) (hf : zb_fx L s u) (hl : zb_LX K LO LD LE u) (hL : (zb_PX.filter (fun x => decide (x ≠ 81003))).all (fun x => !L.contains x) = true) (h25 : L.all (fun x => decide (25 ≤ x)) = true) : zb_MX N A B M O K LO LD LE td Q R T TK W WK Z ZK u := by
  obtain ⟨h1, h2, h3, h4, h5, h6, h7, h8⟩ := h
  -- a frame for what only reads ints
  have fi : ∃ v : sv_S, zb_fr L s v ∧ v.1 = u.1 := ⟨(u.1, s.2), ⟨hf.1, rfl⟩, rfl⟩
  obtain ⟨v, fv, ev⟩ := fi
  have r1 := zb_RX_fr h1 fv (zb_all_sub hL (by decide))
  have r3 := zb_SS_fr h3 fv h25
  refine ⟨?_, hl, ?_, (hf.1 64 9 (zb_no_in hL (x := 64009) (by decide))).trans h4, zb_QX_fx hQ h5 hf (zb_no_in hL (x := 88004) (by decide)) (zb_no_in hL (x := 91) (by decide)), zb_row5_fx h6 hf.1 (zb_no_in hL (x := 151010) (by decide)) (fun f k => zb_five (P := fun f => L.contains (zb_rg (152 + f) k) = false) ?_ ?_ ?_ ?_ ?_ f), zb_row5_fx h7 hf.1 (zb_no_in hL (x := 163013) (by decide)) (fun f k => zb_five (P := fun f => L.contains (zb_rg (164 + f) k) = false) ?_ ?_ ?_ ?_ ?_ f), zb_row1_fx h8 hf.1 (zb_no_in hL (x := 163014) (by decide)) (fun k => zb_no_in hL (x := 169) (by decide))⟩
  · unfold zb_RX zb_gd at r1 ⊢; rw [ev] at r1; exact r1
  · unfold zb_SS at r3 ⊢; rw [ev] at r3; exact r3
  · exact zb_no_in hL (x := 152) (by decide)
  · exact zb_no_in hL (x := 153) (by decide)
  · exact zb_no_in hL (x := 154) (by decide)
  · exact zb_no_in hL (x := 155) (by decide)
  · exact zb_no_in hL (x := 156) (by decide)
  · exact zb_no_in hL (x := 164) (by decide)
  · exact zb_no_in hL (x := 165) (by decide)
  · exact zb_no_in hL (x := 166) (by decide)
  · exact zb_no_in hL (x := 167) (by decide)
  · exact zb_no_in hL (x := 168) (by decide)
/-- a frame of scratch alone -/
theorem zb_MX_fr {L : List Nat} {u : sv_S} (hQ : Q ≤ 60) (h : zb_MX N A B M O K LO LD LE td Q R T TK W WK Z ZK s) (hf : zb_fr L s u) (hL : zb_PX.all (fun x => !L.contains x) = true) (h25 : L.all (fun x => decide (25 ≤ x)) = true) : zb_MX N A B M O K LO LD LE td Q R T TK W WK Z ZK u :=
  zb_MX_rest hQ h (zb_fr_fx hf) (zb_LX_fr h.2.1 hf (zb_all_sub hL (by decide))) (zb_all_sub hL (by decide)) h25
/-- the model leaves the class alone, and the class the model -/
theorem zb_MM_fx {L : List Nat} {u : sv_S} (h : zb_MM N A B M O K LO LD LE td Q R T TK W WK Z ZK s) (hf : zb_fx L s u) (hL : zb_PM.all (fun x => !L.contains x) = true) : zb_MM N A B M O K LO LD LE td Q R T TK W WK Z ZK u := by
  have fv : zb_fr L s (u.1, s.2) := ⟨hf.1, rfl⟩
  have := zb_MM_fr h fv hL
  unfold zb_MM zb_RM zb_LM zb_QM zb_row5 zb_row1 at this ⊢
  exact this
end MAIN
