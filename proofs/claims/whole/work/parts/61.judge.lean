/-! the class's judging, by bits -/
theorem zb_q_not (y : Int64) (i : Nat) : (y ^^^ (1 : Int64)).toBitVec.getLsbD i = (y.toBitVec.getLsbD i ^^ decide (i = 0)) := by
  rw [Int64.toBitVec_xor, BitVec.getLsbD_xor]
  congr 1
  show (1#64).getLsbD i = _
  rw [BitVec.getLsbD_one]
  simp
theorem zb_q_one (i : Nat) : (1 : Int64).toBitVec.getLsbD i = decide (i = 0) := by
  show (1#64).getLsbD i = _
  rw [BitVec.getLsbD_one]; simp
theorem zb_q_m2 : ∀ i : Fin 64, (-2 : Int64).toBitVec.getLsbD i.val = decide (i.val ≠ 0) := by decide +kernel
theorem zb_q_sh (y : Int64) {i : Nat} (hi : i < 63) : (y >>> ((1 : Int32).toInt64 &&& 63)).toBitVec.getLsbD i = y.toBitVec.getLsbD (i + 1) := by
  have e : (1 : Int32).toInt64 &&& 63 = (1 : Int64) := by decide
  have e2 : ((1 : Int64).toBitVec.smod 64#64) = 1#64 := by decide
  have e3 : (1#64).toNat = 1 := by decide
  rw [e, Int64.toBitVec_shiftRight, show (64 : BitVec 64) = 64#64 from rfl, e2, BitVec.sshiftRight_eq', BitVec.getLsbD_sshiftRight, e3, if_pos (by omega), Nat.add_comm 1 i]
  have h1 : ¬ (64 ≤ i) := by omega
  simp [h1]
theorem zb_q_and (y : Int64) {i : Nat} (hi : i < 63) : ((y >>> ((1 : Int32).toInt64 &&& 63)) &&& (y ||| (-2 : Int64))).toBitVec.getLsbD i = (y.toBitVec.getLsbD (i + 1) && (y.toBitVec.getLsbD i || decide (i ≠ 0))) := by
  rw [Int64.toBitVec_and, Int64.toBitVec_or, BitVec.getLsbD_and, BitVec.getLsbD_or, zb_q_sh y hi, zb_q_m2 ⟨i, by omega⟩]
theorem zb_q_or (y : Int64) {i : Nat} (hi : i < 63) : ((y >>> ((1 : Int32).toInt64 &&& 63)) ||| (y &&& (1 : Int64))).toBitVec.getLsbD i = (y.toBitVec.getLsbD (i + 1) || (y.toBitVec.getLsbD i && decide (i = 0))) := by
  rw [Int64.toBitVec_or, Int64.toBitVec_and, BitVec.getLsbD_or, BitVec.getLsbD_and, zb_q_sh y hi, zb_q_one]
theorem zb_q_push (y : Int64) (b : Bool) {i : Nat} (hi : i < 64) : ((y <<< ((1 : Int32).toInt64 &&& 63)) ||| (zb_b b).toInt64).toBitVec.getLsbD i = if i = 0 then b else y.toBitVec.getLsbD (i - 1) := by
  have e : (1 : Int32).toInt64 &&& 63 = (1 : Int64) := by decide
  have e2 : ((1 : Int64).toBitVec.smod 64#64) = 1#64 := by decide
  have e3 : (1#64).toNat = 1 := by decide
  have e4 : (zb_b b).toInt64.toBitVec.getLsbD i = (b && decide (i = 0)) := by
    cases b with
    | false =>
      have : (zb_b false).toInt64 = 0 := by decide
      rw [this]; show (0#64).getLsbD i = _; simp
    | true =>
      have : (zb_b true).toInt64 = 1 := by decide
      rw [this, zb_q_one]; simp
  rw [e, Int64.toBitVec_or, BitVec.getLsbD_or, e4, Int64.toBitVec_shiftLeft, show (64 : BitVec 64) = 64#64 from rfl, e2, BitVec.shiftLeft_eq', BitVec.getLsbD_shiftLeft, e3]
  by_cases q : i = 0
  · subst q; simp
  · rw [if_neg q]
    have h1 : ¬ i < 1 := by omega
    simp [q, h1, hi]
def zb_bits (y : Int64) (st : List Bool) : Prop := ∀ i, i < st.length → y.toBitVec.getLsbD i = st.getD i false
theorem zb_bits_not {y : Int64} {x : Bool} {r : List Bool} (h : zb_bits y (x :: r)) : zb_bits (y ^^^ (1 : Int64)) ((!x) :: r) := by
  intro i hi
  rw [zb_q_not, h i (by simpa using hi)]
  cases i with
  | zero => simp
  | succ i => simp
theorem zb_bits_and {y : Int64} {x z : Bool} {r : List Bool} (hl : r.length < 60) (h : zb_bits y (z :: x :: r)) : zb_bits ((y >>> ((1 : Int32).toInt64 &&& 63)) &&& (y ||| (-2 : Int64))) ((x && z) :: r) := by
  intro i hi
  simp at hi
  rw [zb_q_and y (by omega), h (i + 1) (by simp; omega), h i (by simp; omega)]
  cases i with
  | zero => simp
  | succ i => simp
theorem zb_bits_or {y : Int64} {x z : Bool} {r : List Bool} (hl : r.length < 60) (h : zb_bits y (z :: x :: r)) : zb_bits ((y >>> ((1 : Int32).toInt64 &&& 63)) ||| (y &&& (1 : Int64))) ((x || z) :: r) := by
  intro i hi
  simp at hi
  rw [zb_q_or y (by omega), h (i + 1) (by simp; omega), h i (by simp; omega)]
  cases i with
  | zero => simp
  | succ i => simp
theorem zb_bits_push {y : Int64} {b : Bool} {r : List Bool} (hl : r.length < 60) (h : zb_bits y r) : zb_bits ((y <<< ((1 : Int32).toInt64 &&& 63)) ||| (zb_b b).toInt64) (b :: r) := by
  intro i hi
  simp at hi
  rw [zb_q_push y b (by omega)]
  cases i with
  | zero => simp
  | succ i => rw [if_neg (by omega), Nat.add_sub_cancel, h i (by omega)]; simp
section JG
variable {s : sv_S} {F : Nat → Int32}
/-- one test -/
theorem zb_passes {k x : Int} (hk : 0 ≤ k) (hk8 : k ≤ 8) (hx : 0 ≤ x) (hx9 : x ≤ 9999) (hF : ∀ j, j < 7 → s.1 157 j = F j) (h5 : (F 5).toInt = 0 ∨ (F 5).toInt = 1) (h6 : (F 6).toInt = 0 ∨ (F 6).toInt = 1) : F_Lw_passes (zb_i k) (zb_i x) 157 s = some (zb_b (zb_pss F k x)) := by
  have ln : ss_N s.2.2.2.1 157 = 7 := rfl
  have ix : ∀ j : Nat, j < 7 → (zb_n j).toNatClampNeg = j := fun j hj => zb_n_ix (by omega)
  have ti : (zb_i x).toInt = x := zb_ti (by omega) (by omega)
  have sp : ∀ y : Int32, (y = zb_i x) = (y.toInt = x) := fun y => by rw [← Int32.toInt_inj, ti]
  have sl : ∀ y : Int32, (zb_i x ≤ y) = (x ≤ y.toInt) := fun y => by rw [Int32.le_iff_toInt_le, ti]
  have sg : ∀ y : Int32, (y ≤ zb_i x) = (y.toInt ≤ x) := fun y => by rw [Int32.le_iff_toInt_le, ti]
  have s0 : ∀ y : Int32, (y ≤ zb_n 0) = (y.toInt ≤ 0) := fun y => zb_c_len (by omega)
  have E : ∀ (c : Nat), c ≤ 10 → ((zb_i k = zb_n c) = (k = c)) := fun c hc => by rw [zb_n_i]; exact zb_i_eq (by omega) (by omega) (by omega) (by omega)
  have H0 := hF 0 (by omega)
  have H1 := hF 1 (by omega)
  have H2 := hF 2 (by omega)
  have H3 := hF 3 (by omega)
  have H4 := hF 4 (by omega)
  have H5 := hF 5 (by omega)
  have H6 := hF 6 (by omega)
  unfold F_Lw_passes zb_pss
  rw [ln]
  simp (disch := omega) only [zb_lit, zb_n_add, zb_n_mul, zb_n_ix, zb_n_lt, zb_n_le, zb_n_eq, zb_ib_n, E, H0, H1, H2, H3, H4, H5, H6, sp, sl, sg, s0]
  have : k = 0 ∨ k = 1 ∨ k = 2 ∨ k = 3 ∨ k = 4 ∨ k = 5 ∨ k = 6 ∨ k = 7 ∨ k = 8 := by omega
  rcases this with rfl | rfl | rfl | rfl | rfl | rfl | rfl | rfl | rfl <;> simp [zb_b] <;> (try split) <;> simp <;> (try omega)
theorem zb_judge_loop {L : List Int32} {a0 : Nat} (hN : ss_N s.2.2.2.1 a0 = L.length) (hl : L.length ≤ 140) (hc : ∀ i, i < L.length → s.1 a0 i = L.getD i 0) (hr : ∀ c, c ∈ L → 0 ≤ c.toInt ∧ c.toInt ≤ 119999) (hF : ∀ j, j < 7 → s.1 157 j = F j) (h5 : (F 5).toInt = 0 ∨ (F 5).toInt = 1) (h6 : (F 6).toInt = 0 ∨ (F 6).toInt = 1) :
    ∀ (l : List Int32) (i f : Nat) (y : Int64) (st : List Bool), i + l.length = L.length → L.drop i = l → l.length < f → zb_bits y st → zb_mx l st.length ≤ 50 → zb_okd l st.length → zb_en l st.length = 1 → F_Lw_judge_b20 s f 157 y a0 (zb_n L.length) (zb_n i) = some (zb_b ((zb_ev F l st).headD false)) := by
  intro l
  induction l with
  | nil =>
    intro i f y st hi hd hf hb hm hok hen
    obtain ⟨f, rfl⟩ : ∃ g, f = g + 1 := ⟨f - 1, by simp at hf; omega⟩
    simp only [List.length_nil] at hi
    simp only [F_Lw_judge_b20, zb_ev]
    rw [if_pos (by rw [zb_n_le (by omega) (by omega)]; omega)]
    simp only [zb_en] at hen
    obtain ⟨x, rfl⟩ : ∃ x, st = [x] := by
      cases st with
      | nil => simp at hen
      | cons x r => cases r with
        | nil => exact ⟨x, rfl⟩
        | cons z w => simp at hen
    have h0 := hb 0 (by simp)
    have e : (y &&& (1 : Int64)).toBitVec.getLsbD 0 = x := by rw [Int64.toBitVec_and, BitVec.getLsbD_and, h0, zb_q_one]; simp
    have e2 : y &&& (1 : Int64) = if x = true then 1 else 0 := by
      rw [← Int64.toBitVec_inj]
      apply BitVec.eq_of_getLsbD_eq
      intro j hj
      rw [Int64.toBitVec_and, BitVec.getLsbD_and, zb_q_one]
      by_cases q : j = 0
      · subst q
        rw [h0]
        cases x with
        | false => rw [if_neg (by decide)]; simp
        | true => rw [if_pos rfl, zb_q_one]; simp
      · cases x with
        | false => rw [if_neg (by decide)]; simp [q]
        | true => rw [if_pos rfl, zb_q_one]; simp [q]
    rw [e2]
    cases x <;> decide
  | cons c l ih =>
    intro i f y st hi hd hf hb hm hok hen
    rw [List.length_cons] at hi hf
    obtain ⟨f, rfl⟩ : ∃ g, f = g + 1 := ⟨f - 1, by omega⟩
    have hiL : i < L.length := by omega
    have hdc := zb_dropc L i 0 hiL
    rw [hd] at hdc
    have hc1 : L.getD i 0 = c := by injection hdc with a b; exact a.symm
    have hd1 : L.drop (i + 1) = l := by injection hdc with a b; exact b.symm
    have cm := hr c (by rw [← hc1]; exact zb_getD_mem L i 0 hiL)
    have ec : c = zb_i c.toInt := zb_i_of c
    rw [zb_mx_c] at hm
    have hln := zb_mx_ge l (zb_ne c st.length)
    simp only [F_Lw_judge_b20, F_Lw_judge_b117, F_Lw_judge_b120, ss_let]
    rw [if_neg (by rw [zb_n_le (by omega) (by omega)]; omega), hN, if_pos (by rw [zb_ib_n (by omega)]; exact hiL), zb_n_ix (by omega), hc i hiL, hc1]
    have e1 : zb_n i + (1 : Int32) = zb_n (i + 1) := zb_n_add i 1
    have dv : c / (10000 : Int32) = zb_i (c.toInt / 10000) := by
      conv => lhs; rw [ec]
      rw [show (10000 : Int32) = zb_i 10000 from zb_n_i 10000, zb_i_div (by omega) (by omega) (by omega) (by omega), Int.tdiv_eq_ediv_of_nonneg (by omega)]
    have md : c - c / (10000 : Int32) * (10000 : Int32) = zb_i (c.toInt % 10000) := by
      rw [dv]
      conv => lhs; lhs; rw [ec]
      rw [show (10000 : Int32) = zb_i 10000 from zb_n_i 10000, zb_i_mul, zb_i_sub]; congr 1; omega
    have Eq : ∀ k : Nat, k ≤ 20 → ((zb_i (c.toInt / 10000) = zb_n k) = (c.toInt / 10000 = k)) := fun k hk => by rw [zb_n_i]; exact zb_i_eq (by omega) (by omega) (by omega) (by omega)
    have K9 := Eq 9 (by omega)
    have K10 := Eq 10 (by omega)
    have K11 := Eq 11 (by omega)
    rw [md, dv, e1]
    simp only [zb_ev, zb_en] at hen ⊢
    have IH := ih (i + 1) f
    by_cases q9 : c.toInt / 10000 = 9
    · rw [if_pos (by show zb_i (c.toInt / 10000) = zb_n 9; rw [K9]; exact q9)]
      have n1 : zb_ne c st.length = st.length := by unfold zb_ne; rw [if_pos q9]
      have h3 := hok.2.2
      rw [n1] at hm h3 hen
      cases st with
      | nil => exact absurd (hok.1 q9) (by simp)
      | cons x r =>
        have e : zb_e1 F c (x :: r) = (!x) :: r := by unfold zb_e1; rw [if_pos q9]
        rw [e]
        refine IH _ _ (by omega) hd1 (by omega) (zb_bits_not hb) ?_ ?_ ?_
        · rw [List.length_cons] at hm ⊢; omega
        · exact h3
        · exact hen
    rw [if_neg (by show ¬ zb_i (c.toInt / 10000) = zb_n 9; rw [K9]; exact q9)]
    by_cases q10 : c.toInt / 10000 = 10
    · rw [if_pos (by show zb_i (c.toInt / 10000) = zb_n 10; rw [K10]; exact q10)]
      have n1 : zb_ne c st.length = st.length - 1 := by unfold zb_ne; rw [if_neg q9, if_pos (Or.inl q10)]
      have h2 := hok.2.1 (Or.inl q10)
      have h3 := hok.2.2
      rw [n1] at hm h3 hen
      match st, hb, hm, h2, h3, hen with
      | z :: x :: r, hb, hm, h2, h3, hen =>
        have e : zb_e1 F c (z :: x :: r) = (x && z) :: r := by unfold zb_e1; rw [if_neg q9, if_pos q10]
        rw [e]
        simp only [List.length_cons, Nat.add_sub_cancel] at hm h3 hen
        refine IH _ _ (by omega) hd1 (by omega) (zb_bits_and (by omega) hb) ?_ ?_ ?_
        · rw [List.length_cons]; omega
        · rw [List.length_cons]; exact h3
        · rw [List.length_cons]; exact hen
      | [], _, _, h2, _, _ => simp at h2
      | [_], _, _, h2, _, _ => simp at h2
    rw [if_neg (by show ¬ zb_i (c.toInt / 10000) = zb_n 10; rw [K10]; exact q10)]
    by_cases q11 : c.toInt / 10000 = 11
    · rw [if_pos (by show zb_i (c.toInt / 10000) = zb_n 11; rw [K11]; exact q11)]
      have n1 : zb_ne c st.length = st.length - 1 := by unfold zb_ne; rw [if_neg q9, if_pos (Or.inr q11)]
      have h2 := hok.2.1 (Or.inr q11)
      have h3 := hok.2.2
      rw [n1] at hm h3 hen
      match st, hb, hm, h2, h3, hen with
      | z :: x :: r, hb, hm, h2, h3, hen =>
        have e : zb_e1 F c (z :: x :: r) = (x || z) :: r := by unfold zb_e1; rw [if_neg q9, if_neg q10, if_pos q11]
        rw [e]
        simp only [List.length_cons, Nat.add_sub_cancel] at hm h3 hen
        refine IH _ _ (by omega) hd1 (by omega) (zb_bits_or (by omega) hb) ?_ ?_ ?_
        · rw [List.length_cons]; omega
        · rw [List.length_cons]; exact h3
        · rw [List.length_cons]; exact hen
      | [], _, _, h2, _, _ => simp at h2
      | [_], _, _, h2, _, _ => simp at h2
    rw [if_neg (by show ¬ zb_i (c.toInt / 10000) = zb_n 11; rw [K11]; exact q11)]
    have n1 : zb_ne c st.length = st.length + 1 := by unfold zb_ne; rw [if_neg q9, if_neg (by omega)]
    have h3 := hok.2.2
    rw [n1] at hm h3 hen
    have e : zb_e1 F c st = zb_pss F (c.toInt / 10000) (c.toInt % 10000) :: st := by unfold zb_e1; rw [if_neg q9, if_neg q10, if_neg q11]
    have hmx := zb_mx_ge l (st.length + 1)
    rw [e, zb_passes (by omega) (by omega) (by omega) (by omega) hF h5 h6, Option.bind_some]
    have P := zb_bits_push (b := zb_pss F (c.toInt / 10000) (c.toInt % 10000)) (by omega) hb
    have I2 := IH _ _ (by omega) hd1 (by omega) P (by rw [List.length_cons]; omega) (by rw [List.length_cons]; exact h3) (by rw [List.length_cons]; exact hen)
    cases hb : zb_pss F (c.toInt / 10000) (c.toInt % 10000) with
    | false => rw [hb] at I2; rw [if_pos (by decide)]; exact I2
    | true => rw [hb] at I2; rw [if_neg (by decide)]; exact I2
/-- the class's judging of steps -/
theorem zb_judge {L : List Int32} {a0 : Nat} {d : Bool} (hN : ss_N s.2.2.2.1 a0 = L.length) (hl : L.length ≤ 140) (hc : ∀ i, i < L.length → s.1 a0 i = L.getD i 0) (hL : L = [] ∨ zb_vd 13 L) (hF : ∀ j, j < 7 → s.1 157 j = F j) (h5 : (F 5).toInt = 0 ∨ (F 5).toInt = 1) (h6 : (F 6).toInt = 0 ∨ (F 6).toInt = 1) : F_Lw_judge a0 157 (zb_b d) s = some (zb_b (zb_hd F L d)) := by
  unfold F_Lw_judge zb_hd
  rw [hN]
  have e : Int32.ofNat L.length = zb_n L.length := rfl
  rw [e]
  by_cases q : L = []
  · rw [if_pos q, q, if_pos (by rfl), if_pos zb_bl_b]
  · have ne : 0 < L.length := List.length_pos_iff.mpr q
    rcases hL with hL | hL
    · exact absurd hL q
    rw [if_neg q, if_neg (by rw [show (0 : Int32) = zb_n 0 from rfl, zb_n_eq (by omega) (by omega)]; omega)]
    simp only [ss_let]
    have := zb_judge_loop (F := F) hN hl hc hL.2.2.2.1 hF h5 h6 L 0 ss_F 0 [] (by omega) rfl (by unfold ss_F; omega) (fun i hi => absurd hi (by simp)) (by have := hL.2.2.1 0; simp; omega) (hL.2.2.2.2 _) (hL.2.1 0)
    rw [show (0 : Int32) = zb_n 0 from rfl, this]
    obtain ⟨v, hv⟩ := hL.1 F
    rw [hv []]; rfl
end JG
