/-! charges -/
section FEE
variable (N : Nat) (A B : Nat → Nat) (M : Nat → Int) (O : Nat → Nat) (K : Nat) (LO LD : Nat → Int) (LE : Nat → List zb_EF)
def zb_pt (f : Nat → Int) (p : Int) : Int := if f 1 = 3 then (if zb_D N A B M O (f 2) (f 3).toNat (f 4).toNat < 100000 then zb_D N A B M O (f 2) (f 3).toNat (f 4).toNat * p / 10 else -1) else p
def zb_fee (f : Nat → Int) (p : Int) (g : Nat) (tons d : Int) : Int :=
  if ¬ (f 7 ≤ d ∧ (f 8 < 0 ∨ d < f 8)) then -1 else if tons < f 9 then -1 else if f 6 ≠ (if f 1 = 2 then (g : Int) else zb_v K LO LD LE (f 2) d (20 + g)) then -1 else if zb_pt N A B M O f p < 0 then -1
  else max tons (min (zb_v K LO LD LE (f 2) d 2) 99) * (zb_pt N A B M O f p + zb_v K LO LD LE (f 2) d 1)
/-- the class of what a rate carries, and the ceiling -/
def zb_co (f : Nat → Int) (d : Int) : Int := if f 1 = 2 then zb_v K LO LD LE (f 2) d (20 + (f 6).toNat) else f 6
def zb_cg (f : Nat → Int) (d : Int) : Int := if zb_D N A B M O (-1) (f 3).toNat (f 4).toNat < 100000 then zb_D N A B M O (-1) (f 3).toNat (f 4).toNat * zb_v K LO LD LE (f 2) d (10 + (zb_co K LO LD LE f d).toNat) / 10 else -1
end FEE
section FEE2
variable {N K td Q T W Z : Nat} {A B O ZK : Nat → Nat} {M LO LD : Nat → Int} {LE : Nat → List zb_EF} {R TK WK : Nat → Nat → Int} {s : sv_S}
theorem zb_mulr {a b x y : Int} (h1 : 0 ≤ a) (h2 : a ≤ x) (h3 : 0 ≤ b) (h4 : b ≤ y) : 0 ≤ a * b ∧ a * b ≤ x * y := ⟨Int.mul_nonneg h1 h3, Int.mul_le_mul h2 h4 h3 (by omega)⟩
theorem zb_pt_rg (hL : zb_RL N A B M O) {r : Nat} {f : Nat → Int} (hf : zb_rok r f) {p : Int} (hp : 0 ≤ p) (hp9 : p ≤ 9999) : -1 ≤ zb_pt N A B M O f p ∧ zb_pt N A B M O f p ≤ 3000000 := by
  unfold zb_pt
  obtain ⟨h1, h2, h3, h4, _⟩ := hf
  have D := zb_D_rg hL (f 2) (a := (f 3).toNat) (b := (f 4).toNat) (by omega) (by omega)
  split
  · split
    · next q => have m := zb_mulr (y := 9999) (x := 3000) D.1 (D.2.2 q) hp hp9; omega
    · omega
  · omega
theorem zb_fee_rg (hL : zb_RL N A B M O) {r : Nat} {f : Nat → Int} (hf : zb_rok r f) {p tons d : Int} {g : Nat} (hp : 0 ≤ p) (hp9 : p ≤ 9999) (ht : 1 ≤ tons) (ht9 : tons ≤ 99) (hv : ∀ o w, 0 ≤ zb_v K LO LD LE o d w ∧ zb_v K LO LD LE o d w ≤ 9999) : -1 ≤ zb_fee N A B M O K LO LD LE f p g tons d ∧ zb_fee N A B M O K LO LD LE f p g tons d ≤ 99 * 3009999 := by
  unfold zb_fee
  have P := zb_pt_rg hL hf hp hp9
  have v1 := hv (f 2) 1
  have v2 := hv (f 2) 2
  by_cases q1 : ¬ (f 7 ≤ d ∧ (f 8 < 0 ∨ d < f 8))
  · rw [if_pos q1]; omega
  rw [if_neg q1]
  by_cases q2 : tons < f 9
  · rw [if_pos q2]; omega
  rw [if_neg q2]
  by_cases q3 : f 6 ≠ (if f 1 = 2 then (g : Int) else zb_v K LO LD LE (f 2) d (20 + g))
  · rw [if_pos q3]; omega
  rw [if_neg q3]
  by_cases q4 : zb_pt N A B M O f p < 0
  · rw [if_pos q4]; omega
  rw [if_neg q4]
  have m := zb_mulr (a := max tons (min (zb_v K LO LD LE (f 2) d 2) 99)) (b := zb_pt N A B M O f p + zb_v K LO LD LE (f 2) d 1) (x := 99) (y := 3009999) (by omega) (by omega) (by omega) (by omega)
  omega
theorem zb_value_X (hQ : Q ≤ 60) (h : zb_MX N A B M O K LO LD LE td Q R T TK W WK Z ZK s) {o d : Int} {w : Nat} (ho : -1 ≤ o) (ho5 : o ≤ 5) (hd : 0 ≤ d) (hd9 : d ≤ 9999) (hw : w < 40) : zb_W (F_Ls_value (zb_i o) (zb_i d) (zb_n w) s) (fun r => r.1 = zb_i (zb_v K LO LD LE o d w) ∧ zb_MX N A B M O K LO LD LE td Q R T TK W WK Z ZK r.2 ∧ zb_fx [81003] s r.2) := by
  refine zb_Wmono (zb_value h.2.1 ho ho5 hd hd9 hw) (fun r hr => ⟨hr.1, zb_MX_rest hQ h hr.2.2 hr.2.1 (by decide) (by decide), hr.2.2⟩)
/-- a rate's fields -/
theorem zb_fld (h : zb_MX N A B M O K LO LD LE td Q R T TK W WK Z ZK s) {r f : Nat} (hr : r < Q) (h1 : 1 ≤ f) (h2 : f ≤ 10) : s.1 (91 + r) f = zb_i (R r f) := (h.2.2.2.2.1.2.1 r hr).2.1 f h1 h2
theorem zb_in_n {z : Int} (h : 0 ≤ z) : zb_i z = zb_n z.toNat := by rw [zb_n_i, Int.toNat_of_nonneg h]
theorem zb_perTon (hL : zb_RL N A B M O) (h : zb_MX N A B M O K LO LD LE td Q R T TK W WK Z ZK s) {r : Nat} (hr : r < Q) (hf : zb_rok r (R r)) {p : Int} (hp : 0 ≤ p) (hp9 : p ≤ 9999) : F_Rs_perTon (91 + r) (zb_i p) s = some (zb_i (zb_pt N A B M O (R r) p)) := by
  obtain ⟨h1, h2, h3, h4, _⟩ := hf
  unfold F_Rs_perTon zb_pt
  rw [zb_fld h hr (by omega) (by omega), zb_fld h hr (by omega) (by omega), zb_fld h hr (by omega) (by omega), zb_fld h hr (by omega) (by omega), zb_m1, show (3 : Int32) = zb_i 3 from zb_n_i 3]
  by_cases q : R r 1 = 3
  · rw [if_pos q, if_pos (by rw [q]), zb_in_n h3.1, zb_in_n h4.1, zb_between hL h.1 (by omega) (by omega) (by omega) (by omega), Option.bind_some]
    have D := zb_D_rg hL (R r 2) (a := (R r 3).toNat) (b := (R r 4).toNat) (by omega) (by omega)
    unfold zb_bt
    by_cases w : zb_D N A B M O (R r 2) (R r 3).toNat (R r 4).toNat < 100000
    · rw [if_pos w, if_pos w, if_pos (zb_ge0 D.1 (by omega))]
      have m := zb_mulr (y := 9999) (x := 3000) D.1 (D.2.2 w) hp hp9
      rw [show (10 : Int32) = zb_i 10 from zb_n_i 10, zb_i_mul, zb_i_div (by omega) (by omega) (by omega) (by omega), Int.tdiv_eq_ediv_of_nonneg m.1]
    · rw [if_neg w, if_neg w, if_neg (by decide)]
  · rw [if_neg q, if_neg (by rw [zb_i_eq (by omega) (by omega) (by omega) (by omega)]; exact q)]
theorem zb_min {a b : Int} (h1 : -2147483648 ≤ a) (h2 : a ≤ 2147483647) (h3 : -2147483648 ≤ b) (h4 : b ≤ 2147483647) : F_JM_min (zb_i a) (zb_i b) s = some (zb_i (min a b)) := by
  unfold F_JM_min
  simp only [zb_i_lt h3 h4 h1 h2]
  split <;> (congr 2; omega)
theorem zb_max {a b : Int} (h1 : -2147483648 ≤ a) (h2 : a ≤ 2147483647) (h3 : -2147483648 ≤ b) (h4 : b ≤ 2147483647) : F_JM_max (zb_i a) (zb_i b) s = some (zb_i (max a b)) := by
  unfold F_JM_max
  simp only [zb_i_lt h1 h2 h3 h4]
  split <;> (congr 2; omega)
/-- the class's charge -/
theorem zb_fee_X (hW : zb_MW N A B M O K LO LD LE td Q R T TK W WK Z ZK) (hL : zb_RL N A B M O) (hM : zb_LM K LO LD LE s) (h : zb_MX N A B M O K LO LD LE td Q R T TK W WK Z ZK s) {r g : Nat} (hr : r < Q) {p tons d : Int} (hp : 0 ≤ p) (hp9 : p ≤ 9999) (hg : g < 20) (ht : 1 ≤ tons) (ht9 : tons ≤ 99) (hd : 0 ≤ d) (hd9 : d ≤ 9999) : zb_W (F_Rs_fee (91 + r) (zb_i p) (zb_n g) (zb_i tons) (zb_i d) s) (fun q => q.1 = zb_i (zb_fee N A B M O K LO LD LE (R r) p g tons d) ∧ zb_MX N A B M O K LO LD LE td Q R T TK W WK Z ZK q.2 ∧ zb_fx [81003] s q.2) := by
  have hQ := hW.2.1
  have rk := hW.2.2.1 r hr
  have hv := fun o w => zb_v_rg hM o d w
  have P := zb_pt_rg hL rk hp hp9
  obtain ⟨h1, h2, h3, h4, h5, h6, h7, h8, h9, h10, h11⟩ := id rk
  have b49 : ∀ (u : sv_S) (x : Int), zb_MX N A B M O K LO LD LE td Q R T TK W WK Z ZK u → zb_fx [81003] s u → 0 ≤ x → x ≤ 100 → zb_W (F_Rs_fee_b49 (91 + r) (zb_i p) (zb_i tons) (zb_i d) (zb_i x) u) (fun q => q.1 = zb_i (if R r 6 ≠ x then -1 else if zb_pt N A B M O (R r) p < 0 then -1 else max tons (min (zb_v K LO LD LE (R r 2) d 2) 99) * (zb_pt N A B M O (R r) p + zb_v K LO LD LE (R r 2) d 1)) ∧ zb_MX N A B M O K LO LD LE td Q R T TK W WK Z ZK q.2 ∧ zb_fx [81003] s q.2) := by
    intro u x hu fu x0 x1
    unfold F_Rs_fee_b49
    rw [zb_perTon hL hu hr rk hp hp9, Option.bind_some, zb_fld hu hr (by omega) (by omega), zb_fld hu hr (by omega) (by omega), zb_m1]
    by_cases q1 : R r 6 = x
    · refine zb_Wpos (by rw [q1]) ?_
      rw [if_neg (show ¬ (R r 6 ≠ x) from fun z => z q1)]
      by_cases q2 : zb_pt N A B M O (R r) p < 0
      · rw [if_pos q2]
        refine zb_Wneg ?_ (zb_Wsome ⟨rfl, hu, fu⟩)
        rw [show (0 : Int32) = zb_i 0 from zb_n_i 0, zb_i_le (by omega) (by omega) (by omega) (by omega)]; omega
      · rw [if_neg q2]
        refine zb_Wpos (zb_ge0 (by omega) (by omega)) ?_
        rw [show (2 : Int32) = zb_n 2 from rfl, show (1 : Int32) = zb_n 1 from rfl, show (99 : Int32) = zb_i 99 from zb_n_i 99]
        refine zb_Wbind2 (zb_value_X hQ hu (o := R r 2) (by omega) (by omega) hd hd9 (by omega)) (fun v hv' => ?_)
        obtain ⟨v1, v2, v3⟩ := hv'
        have g2 := hv (R r 2) 2
        have g1 := hv (R r 2) 1
        rw [v1, zb_min (by omega) (by omega) (by omega) (by omega)]
        refine zb_Wbind (zb_Wsome ?_)
        rw [zb_max (by omega) (by omega) (by omega) (by omega)]
        refine zb_Wbind (zb_Wsome ?_)
        rw [zb_fld v2 hr (by omega) (by omega)]
        refine zb_Wbind2 (zb_value_X hQ v2 (o := R r 2) (by omega) (by omega) hd hd9 (by omega)) (fun w hw => zb_Wsome ?_)
        obtain ⟨w1, w2, w3⟩ := hw
        refine ⟨?_, w2, zb_fx_trans fu (zb_fx_trans v3 w3)⟩
        rw [w1, zb_i_add, zb_i_mul]
    · rw [if_pos (show R r 6 ≠ x from q1)]
      exact zb_Wneg (by rw [zb_i_eq (by omega) (by omega) (by omega) (by omega)]; exact q1) (zb_Wsome ⟨rfl, hu, fu⟩)
  unfold F_Rs_fee F_Ra_isPrinted zb_fee
  have E7 := zb_fld h hr (f := 7) (by omega) (by omega)
  have E8 := zb_fld h hr (f := 8) (by omega) (by omega)
  have E9 := zb_fld h hr (f := 9) (by omega) (by omega)
  have E1 := zb_fld h hr (f := 1) (by omega) (by omega)
  have E2 := zb_fld h hr (f := 2) (by omega) (by omega)
  rw [E7, E8, E9, E1, E2, zb_m1]
  have z7 := zb_i_lt (a := d) (b := R r 7) (by omega) (by omega) (by omega) (by omega)
  have z8 : (zb_i (R r 8) < (0 : Int32)) = (R r 8 < 0) := by rw [show (0 : Int32) = zb_i 0 from zb_n_i 0]; exact zb_i_lt (by omega) (by omega) (by omega) (by omega)
  have z8' := zb_i_le (a := R r 8) (b := d) (by omega) (by omega) (by omega) (by omega)
  have z9 := zb_i_le (a := R r 9) (b := tons) (by omega) (by omega) (by omega) (by omega)
  have z1 : (zb_i (R r 1) = (2 : Int32)) = (R r 1 = 2) := by rw [show (2 : Int32) = zb_i 2 from zb_n_i 2]; exact zb_i_eq (by omega) (by omega) (by omega) (by omega)
  simp only [z7, z8, z8', z9, z1]
  have rest : zb_W (if R r 9 ≤ tons then (if R r 1 = 2 then F_Rs_fee_b49 (91 + r) (zb_i p) (zb_i tons) (zb_i d) (zb_n g) s else (F_Ls_value (zb_i (R r 2)) (zb_i d) ((20 : Int32) + zb_n g) s).bind fun r2 => F_Rs_fee_b49 (91 + r) (zb_i p) (zb_i tons) (zb_i d) r2.1 r2.2) else some (zb_i (-1), s)) (fun q => q.1 = zb_i (if tons < R r 9 then -1 else if R r 6 ≠ (if R r 1 = 2 then (g : Int) else zb_v K LO LD LE (R r 2) d (20 + g)) then -1 else if zb_pt N A B M O (R r) p < 0 then -1 else max tons (min (zb_v K LO LD LE (R r 2) d 2) 99) * (zb_pt N A B M O (R r) p + zb_v K LO LD LE (R r 2) d 1)) ∧ zb_MX N A B M O K LO LD LE td Q R T TK W WK Z ZK q.2 ∧ zb_fx [81003] s q.2) := by
    by_cases q9 : R r 9 ≤ tons
    · rw [if_pos q9, if_neg (show ¬ tons < R r 9 by omega)]
      by_cases q1 : R r 1 = 2
      · rw [if_pos q1, if_pos q1, zb_n_i]
        exact b49 s g h (zb_fx_refl _ _) (by omega) (by omega)
      · rw [if_neg q1, if_neg q1, show (20 : Int32) + zb_n g = zb_n (20 + g) from zb_n_add 20 g]
        refine zb_Wbind2 (zb_value_X hQ h (o := R r 2) (by omega) (by omega) hd hd9 (by omega)) (fun v hv' => ?_)
        obtain ⟨v1, v2, v3⟩ := hv'
        have gg := (hv (R r 2) (20 + g)).2.2.2 (by omega)
        have gg0 := (hv (R r 2) (20 + g)).1
        rw [v1]
        exact b49 v.2 _ v2 v3 gg0 (by omega)
    · rw [if_neg q9, if_pos (show tons < R r 9 by omega)]
      exact zb_Wsome ⟨rfl, h, zb_fx_refl _ _⟩
  by_cases p7 : d < R r 7
  · rw [if_pos p7, if_pos (show ¬ (R r 7 ≤ d ∧ (R r 8 < 0 ∨ d < R r 8)) by omega)]
    exact zb_Wbind (zb_Wsome (zb_Wpos rfl (zb_Wsome ⟨rfl, h, zb_fx_refl _ _⟩)))
  · rw [if_neg p7]
    by_cases p8 : R r 8 < 0
    · rw [if_pos p8, if_neg (show ¬ ¬ (R r 7 ≤ d ∧ (R r 8 < 0 ∨ d < R r 8)) by omega)]
      exact zb_Wbind (zb_Wsome (zb_Wneg (by decide) rest))
    · rw [if_neg p8]
      by_cases p9 : R r 8 ≤ d
      · rw [if_pos p9, if_pos (show ¬ (R r 7 ≤ d ∧ (R r 8 < 0 ∨ d < R r 8)) by omega)]
        exact zb_Wbind (zb_Wsome (zb_Wpos rfl (zb_Wsome ⟨rfl, h, zb_fx_refl _ _⟩)))
      · rw [if_neg p9, if_neg (show ¬ ¬ (R r 7 ≤ d ∧ (R r 8 < 0 ∨ d < R r 8)) by omega)]
        exact zb_Wbind (zb_Wsome (zb_Wneg (by decide) rest))
theorem zb_co_rg (hM : zb_LM K LO LD LE s) {r : Nat} {f : Nat → Int} (hf : zb_rok r f) (d : Int) : 0 ≤ zb_co K LO LD LE f d ∧ zb_co K LO LD LE f d ≤ 9 := by
  obtain ⟨h1, h2, h3, h4, h5, h6, h7, _⟩ := hf
  have hv := zb_v_rg hM (f 2) d (20 + (f 6).toNat)
  have := hv.2.2.2 (by omega)
  unfold zb_co
  split
  · omega
  · omega
theorem zb_cg_rg (hL : zb_RL N A B M O) (hM : zb_LM K LO LD LE s) {r : Nat} {f : Nat → Int} (hf : zb_rok r f) (d : Int) : -1 ≤ zb_cg N A B M O K LO LD LE f d ∧ zb_cg N A B M O K LO LD LE f d ≤ 3000000 := by
  obtain ⟨h1, h2, h3, h4, _⟩ := id hf
  have D := zb_D_rg hL (-1) (a := (f 3).toNat) (b := (f 4).toNat) (by omega) (by omega)
  have v := zb_v_rg hM (f 2) d (10 + (zb_co K LO LD LE f d).toNat)
  unfold zb_cg
  split
  · next q => have m := zb_mulr (x := 3000) (y := 9999) D.1 (D.2.2 q) v.1 v.2.1; omega
  · omega
theorem zb_classOf_X (hW : zb_MW N A B M O K LO LD LE td Q R T TK W WK Z ZK) (h : zb_MX N A B M O K LO LD LE td Q R T TK W WK Z ZK s) {r : Nat} (hr : r < Q) {d : Int} (hd : 0 ≤ d) (hd9 : d ≤ 9999) : zb_W (F_Rs_classOf (91 + r) (zb_i d) s) (fun q => q.1 = zb_i (zb_co K LO LD LE (R r) d) ∧ zb_MX N A B M O K LO LD LE td Q R T TK W WK Z ZK q.2 ∧ zb_fx [81003] s q.2) := by
  have rk := hW.2.2.1 r hr
  obtain ⟨h1, h2, h3, h4, h5, h6, h7, _⟩ := id rk
  unfold F_Rs_classOf zb_co
  rw [zb_fld h hr (f := 1) (by omega) (by omega), zb_fld h hr (f := 2) (by omega) (by omega), zb_fld h hr (f := 6) (by omega) (by omega)]
  by_cases q : R r 1 = 2
  · rw [if_pos q]
    refine zb_Wpos (by rw [q]; rfl) ?_
    rw [zb_in_n h7.1, show (20 : Int32) + zb_n (R r 6).toNat = zb_n (20 + (R r 6).toNat) from zb_n_add 20 _]
    refine zb_Wbind2 (zb_value_X hW.2.1 h (o := R r 2) (by omega) (by omega) hd hd9 (by omega)) (fun v hv => zb_Wsome hv)
  · rw [if_neg q]
    exact zb_Wneg (by rw [show (2 : Int32) = zb_i 2 from zb_n_i 2, zb_i_eq (by omega) (by omega) (by omega) (by omega)]; exact q) (zb_Wsome ⟨rfl, h, zb_fx_refl _ _⟩)
theorem zb_ceiling_X (hW : zb_MW N A B M O K LO LD LE td Q R T TK W WK Z ZK) (hL : zb_RL N A B M O) (hM : zb_LM K LO LD LE s) (h : zb_MX N A B M O K LO LD LE td Q R T TK W WK Z ZK s) {r : Nat} (hr : r < Q) {d : Int} (hd : 0 ≤ d) (hd9 : d ≤ 9999) : zb_W (F_Rs_ceiling (91 + r) (zb_i d) s) (fun q => q.1 = zb_i (zb_cg N A B M O K LO LD LE (R r) d) ∧ zb_MX N A B M O K LO LD LE td Q R T TK W WK Z ZK q.2 ∧ zb_fx [81003] s q.2) := by
  have rk := hW.2.2.1 r hr
  obtain ⟨h1, h2, h3, h4, _⟩ := id rk
  unfold F_Rs_ceiling zb_cg
  rw [zb_fld h hr (f := 3) (by omega) (by omega), zb_fld h hr (f := 4) (by omega) (by omega), zb_fld h hr (f := 2) (by omega) (by omega), zb_m1, zb_in_n h3.1, zb_in_n h4.1, zb_between hL h.1 (by omega) (by omega) (by omega) (by omega)]
  refine zb_Wbind (zb_Wsome ?_)
  have D := zb_D_rg hL (-1) (a := (R r 3).toNat) (b := (R r 4).toNat) (by omega) (by omega)
  unfold zb_bt
  by_cases w : zb_D N A B M O (-1) (R r 3).toNat (R r 4).toNat < 100000
  · rw [if_pos w, if_pos w]
    refine zb_Wpos (zb_ge0 D.1 (by omega)) ?_
    refine zb_Wbind2 (zb_classOf_X hW h hr hd hd9) (fun v hv => ?_)
    obtain ⟨v1, v2, v3⟩ := hv
    have cr := zb_co_rg hM rk d
    rw [v1, zb_in_n cr.1, show (10 : Int32) + zb_n (zb_co K LO LD LE (R r) d).toNat = zb_n (10 + (zb_co K LO LD LE (R r) d).toNat) from zb_n_add 10 _]
    refine zb_Wbind2 (zb_value_X hW.2.1 v2 (o := R r 2) (by omega) (by omega) hd hd9 (by omega)) (fun x hx => zb_Wsome ?_)
    obtain ⟨x1, x2, x3⟩ := hx
    have vr := zb_v_rg hM (R r 2) d (10 + (zb_co K LO LD LE (R r) d).toNat)
    have m := zb_mulr (x := 3000) (y := 9999) D.1 (D.2.2 w) vr.1 vr.2.1
    refine ⟨?_, x2, zb_fx_trans v3 x3⟩
    rw [x1, show (10 : Int32) = zb_i 10 from zb_n_i 10, zb_i_mul, zb_i_div (by omega) (by omega) (by omega) (by omega), Int.tdiv_eq_ediv_of_nonneg m.1]
  · rw [if_neg w, if_neg w]
    exact zb_Wneg (by decide) (zb_Wsome ⟨rfl, h, zb_fx_refl _ _⟩)
end FEE2
