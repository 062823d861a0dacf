/-! sets as bits; sums over wants -/
theorem zb_n_and (a b : Nat) : zb_n a &&& zb_n b = zb_n (a &&& b) := Int32.toBitVec_inj.mp (BitVec.ofNat_and (w := 32) (x := a) (y := b)).symm
theorem zb_n_or (a b : Nat) : zb_n a ||| zb_n b = zb_n (a ||| b) := Int32.toBitVec_inj.mp (BitVec.ofNat_or (w := 32) (x := a) (y := b)).symm
def zb_pop (S : Nat) : Nat := (List.range 10).foldl (fun a i => a + (if S.testBit i = true then 1 else 0)) 0
def zb_bcf (x : Int32) : Int32 :=
  let v1 := x - (((x.toUInt32 >>> ((1 : Int32).toUInt32 &&& Int32.toUInt32 31)).toInt32) &&& (1431655765 : Int32))
  let v2 := (v1 &&& (858993459 : Int32)) + (((v1.toUInt32 >>> ((2 : Int32).toUInt32 &&& Int32.toUInt32 31)).toInt32) &&& (858993459 : Int32))
  let v3 := (v2 + ((v2.toUInt32 >>> ((4 : Int32).toUInt32 &&& Int32.toUInt32 31)).toInt32)) &&& (252645135 : Int32)
  let v4 := v3 + ((v3.toUInt32 >>> ((8 : Int32).toUInt32 &&& Int32.toUInt32 31)).toInt32)
  let v5 := v4 + ((v4.toUInt32 >>> ((16 : Int32).toUInt32 &&& Int32.toUInt32 31)).toInt32)
  v5 &&& (63 : Int32)
theorem zb_bc_eq {x : Int32} {s : sv_S} : F_JI_bitCount x s = some (zb_bcf x) := rfl
theorem zb_bc_all : (List.range 1024).all (fun S => decide (zb_bcf (zb_n S) = zb_n (zb_pop S))) = true := by decide +kernel
theorem zb_ones_all : (List.range 1024).all (fun S => decide (S = 0 ∨ (S &&& (S - 1) < S ∧ zb_pop (S &&& (S - 1)) + 1 = zb_pop S))) = true := by decide +kernel
theorem zb_bit_all : (List.range 10).all (fun z => (List.range 1024).all (fun S => decide (((zb_n S >>> (zb_n z &&& 31)) &&& (1 : Int32) = (1 : Int32)) ↔ S.testBit z = true))) = true := by decide +kernel
theorem zb_sh_all : (List.range 11).all (fun z => decide ((1 : Int32) <<< (zb_n z &&& 31) = zb_n (2 ^ z))) = true := by decide +kernel
theorem zb_bc {S : Nat} {s : sv_S} (h : S < 1024) : F_JI_bitCount (zb_n S) s = some (zb_n (zb_pop S)) := by
  rw [zb_bc_eq, of_decide_eq_true (List.all_eq_true.mp zb_bc_all S (List.mem_range.mpr h))]
theorem zb_bit {S z : Nat} (h : S < 1024) (hz : z < 10) : ((zb_n S >>> (zb_n z &&& 31)) &&& (1 : Int32) = (1 : Int32)) = (S.testBit z = true) :=
  propext (of_decide_eq_true (List.all_eq_true.mp (List.all_eq_true.mp zb_bit_all z (List.mem_range.mpr hz)) S (List.mem_range.mpr h)))
theorem zb_sh {z : Nat} (h : z ≤ 10) : (1 : Int32) <<< (zb_n z &&& 31) = zb_n (2 ^ z) := of_decide_eq_true (List.all_eq_true.mp zb_sh_all z (List.mem_range.mpr (by omega)))
theorem zb_pop_le : (List.range 1024).all (fun S => decide (zb_pop S ≤ 10)) = true := by decide +kernel
theorem zb_pop10 {S : Nat} (h : S < 1024) : zb_pop S ≤ 10 := of_decide_eq_true (List.all_eq_true.mp zb_pop_le S (List.mem_range.mpr h))
theorem zb_ones_b4 {s : sv_S} : ∀ (S : Nat), S < 1024 → ∀ (fu c : Nat), S < fu → F_Mo_ones_b4 s fu (zb_n c) (zb_n S) = some (zb_n (c + zb_pop S)) := by
  intro S
  induction S using Nat.strongRecOn with
  | _ S ih =>
    intro hS fu c hf
    obtain ⟨f, rfl⟩ : ∃ f, fu = f + 1 := ⟨fu - 1, by omega⟩
    have o := of_decide_eq_true (List.all_eq_true.mp zb_ones_all S (List.mem_range.mpr hS))
    simp only [F_Mo_ones_b4]
    have z : (zb_n S = 0) = (S = 0) := zb_n_eq (b := 0) (by omega) (by omega)
    by_cases q : S = 0
    · rw [if_pos (by rw [z]; exact q), q]; rfl
    · rw [if_neg (by rw [z]; exact q)]
      obtain ⟨o1, o2⟩ := o.resolve_left q
      simp only [ss_let]
      obtain ⟨m, rfl⟩ : ∃ m, S = m + 1 := ⟨S - 1, by omega⟩
      rw [zb_sub1, zb_n_and, show zb_n c + (1 : Int32) = zb_n (c + 1) from zb_n_add c 1]
      rw [Nat.add_sub_cancel] at o1 o2
      rw [ih _ o1 (by omega) f (c + 1) (by omega), ← o2]
      congr 2; omega
theorem zb_ones {S : Nat} {s : sv_S} (h : S < 1024) : F_Mo_ones (zb_n S) s = some (zb_n (zb_pop S)) := by
  have := zb_ones_b4 (s := s) S h ss_F 0 (by unfold ss_F; omega)
  rw [Nat.zero_add] at this
  exact this
/-- the fewest: both choose alike -/
def zb_bst (tot : Nat → Int) (much : Int) : Nat → Int
  | 0 => -1
  | S + 1 => if (zb_bst tot much S < 0 ∨ zb_pop S < zb_pop (zb_bst tot much S).toNat) ∧ much ≤ tot S then (S : Int) else zb_bst tot much S
theorem zb_bst_rg {tot : Nat → Int} {much : Int} : ∀ S, -1 ≤ zb_bst tot much S ∧ zb_bst tot much S < S ∨ (S = 0 ∧ zb_bst tot much S = -1)
  | 0 => Or.inr ⟨rfl, rfl⟩
  | S + 1 => by
    have ih := zb_bst_rg (tot := tot) (much := much) S
    simp only [zb_bst]
    split <;> omega
/-! all that is charged is the least sum -/
section TBA
variable {f : Nat → Int} {Fr To Ow : Nat → Nat} {Q b a : Nat}
theorem zb_tb_i {c : Nat} (h : zb_ju f Fr To Q b c a) : ∀ i, i ≤ c → zb_tb f Fr To Ow Q b c a (-1) i = zb_Sx f Fr To Q b c a - zb_Sx f Fr To Q b (c - i) (zb_sq f Fr To Q b c a i)
  | 0, _ => by simp only [zb_tb, zb_sq, Nat.sub_zero]; omega
  | i + 1, hi => by
    have ih := zb_tb_i h i (by omega)
    have j := zb_sq_ju h i (by omega)
    have e : c - i = c - (i + 1) + 1 := by omega
    simp only [zb_tb, zb_sq]
    rw [ih, if_pos (Or.inl trivial)]
    unfold zb_ri
    rw [e] at j ⊢
    have o := (zb_r1_ok j).2.1
    unfold zb_c2 at o
    rw [decide_eq_true_eq] at o
    have := o.2.2
    omega
theorem zb_tb_all (hlt : zb_Sx f Fr To Q b 8 a < zb_mu) : zb_tb f Fr To Ow Q b (zb_cm f Fr To Q b a) a (-1) (zb_cm f Fr To Q b a) = zb_Sx f Fr To Q b 8 a := by
  have j := zb_cm_ju hlt
  rw [zb_tb_i j _ (Nat.le_refl _), Nat.sub_self]
  have j0 := zb_sq_ju j _ (Nat.le_refl _)
  rw [Nat.sub_self] at j0
  have z : zb_Sx f Fr To Q b 0 (zb_sq f Fr To Q b (zb_cm f Fr To Q b a) a (zb_cm f Fr To Q b a)) = 0 := by
    have lt := j0.1
    simp only [zb_Sx] at lt ⊢
    by_cases q : zb_sq f Fr To Q b (zb_cm f Fr To Q b a) a (zb_cm f Fr To Q b a) = b
    · rw [if_pos q]
    · rw [if_neg q] at lt; omega
  rw [z, (zb_cm_ok a).2.1]; omega
end TBA
theorem zb_ct_congr {f g : Nat → Int} {Q : Nat} (h : ∀ r, r < Q → (0 ≤ f r ↔ 0 ≤ g r)) : ∀ r, r ≤ Q → zb_ct f r = zb_ct g r
  | 0, _ => rfl
  | r + 1, hr => by
    simp only [zb_ct]
    rw [zb_ct_congr h r (by omega)]
    have := h r (by omega)
    by_cases q : 0 ≤ f r
    · rw [if_pos q, if_pos (this.mp q)]
    · rw [if_neg q, if_neg (fun z => q (this.mpr z))]
/-- pence of listed rates -/
def zb_pz (ZK : Nat → Nat) (v : Nat → Int) (base : Nat → Int) : Nat → Nat → Int
  | 0 => base
  | z + 1 => fun r => if r = ZK z then v z else zb_pz ZK v base z r
section PZ
variable {ZK : Nat → Nat} {v base base' : Nat → Int} {Z : Nat}
theorem zb_pz_no {r : Nat} : ∀ n, (∀ z, z < n → ZK z ≠ r) → zb_pz ZK v base n r = base r
  | 0, _ => rfl
  | n + 1, h => by
    simp only [zb_pz]
    rw [if_neg (fun q => h n (by omega) q.symm)]
    exact zb_pz_no n (fun z hz => h z (by omega))
theorem zb_pz_at (hd : ∀ z y, z < Z → y < Z → ZK z = ZK y → z = y) {z : Nat} : ∀ n, n ≤ Z → z < n → zb_pz ZK v base n (ZK z) = v z
  | 0, _, h => absurd h (by omega)
  | n + 1, hn, h => by
    simp only [zb_pz]
    by_cases q : ZK z = ZK n
    · have := hd z n (by omega) (by omega) q
      subst this
      rw [if_pos rfl]
    · rw [if_neg q]
      exact zb_pz_at hd n (by omega) (by have : z ≠ n := fun e => q (by rw [e]); omega)
theorem zb_pz_base (h : ∀ r, (∀ z, z < Z → ZK z ≠ r) → base r = base' r) : zb_pz ZK v base Z = zb_pz ZK v base' Z := by
  have : ∀ n r, (∀ z, z < Z → n ≤ z → ZK z ≠ r) → n ≤ Z → zb_pz ZK v base n r = zb_pz ZK v base' n r := by
    intro n
    induction n with
    | zero => intro r hr _; exact h r (fun z hz => hr z hz (by omega))
    | succ n ih =>
      intro r hr hn
      simp only [zb_pz]
      by_cases q : r = ZK n
      · rw [if_pos q, if_pos q]
      · rw [if_neg q, if_neg q]
        refine ih r (fun z hz hz2 => ?_) (by omega)
        by_cases e : z = n
        · rw [e]; exact fun z => q z.symm
        · exact hr z hz (by omega)
  funext r
  exact this Z r (fun z hz hz2 => absurd hz (by omega)) (Nat.le_refl _)
theorem zb_pz_self (hv : ∀ z, z < Z → v z = base (ZK z)) : zb_pz ZK v base Z = base := by
  have : ∀ n, n ≤ Z → zb_pz ZK v base n = base := by
    intro n
    induction n with
    | zero => intro _; rfl
    | succ n ih =>
      intro hn
      funext r
      simp only [zb_pz]
      rw [ih (by omega)]
      by_cases q : r = ZK n
      · rw [if_pos q, q, hv n (by omega)]
      · rw [if_neg q]
  exact this Z (Nat.le_refl _)
end PZ
section FES
variable {N K : Nat} {A B O : Nat → Nat} {M LO LD : Nat → Int} {LE : Nat → List zb_EF} {R : Nat → Nat → Int}
theorem zb_fee_R5 {pn : Nat → Int} {r g : Nat} {p t d : Int} : zb_fee N A B M O K LO LD LE (zb_R5 R pn r) p g t d = zb_fee N A B M O K LO LD LE (R r) p g t d := by
  have e : ∀ k, k ≠ 5 → zb_R5 R pn r k = R r k := fun k hk => zb_R5_ne hk
  unfold zb_fee zb_pt
  rw [e 1 (by omega), e 2 (by omega), e 3 (by omega), e 4 (by omega), e 6 (by omega), e 7 (by omega), e 8 (by omega), e 9 (by omega)]
theorem zb_fee_sign {f : Nat → Int} {p p' tons d : Int} {g : Nat} (h3 : f 1 ≠ 3) (hp : 0 ≤ p) (hp' : 0 ≤ p') (ht : 1 ≤ tons) (hv : ∀ o w, 0 ≤ zb_v K LO LD LE o d w ∧ zb_v K LO LD LE o d w ≤ 9999) : 0 ≤ zb_fee N A B M O K LO LD LE f p g tons d → 0 ≤ zb_fee N A B M O K LO LD LE f p' g tons d := by
  unfold zb_fee
  have e1 : zb_pt N A B M O f p = p := by unfold zb_pt; rw [if_neg h3]
  have e2 : zb_pt N A B M O f p' = p' := by unfold zb_pt; rw [if_neg h3]
  rw [e1, e2]
  by_cases c1 : f 7 ≤ d ∧ (f 8 < 0 ∨ d < f 8)
  rotate_left
  · rw [if_pos c1]; intro z; omega
  rw [if_neg (not_not_intro c1), if_neg (not_not_intro c1)]
  by_cases c2 : tons < f 9
  · rw [if_pos c2]; intro z; omega
  rw [if_neg c2, if_neg c2]
  by_cases c3 : f 6 ≠ (if f 1 = 2 then (g : Int) else zb_v K LO LD LE (f 2) d (20 + g))
  · rw [if_pos c3]; intro z; omega
  rw [if_neg c3, if_neg c3, if_neg (by omega), if_neg (by omega)]
  intro _
  have v := hv (f 2) 1
  exact Int.mul_nonneg (by omega) (by omega)
end FES
