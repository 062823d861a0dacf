/-! the model's words are the class's -/
theorem sb_lk0 {t : Nat → Int32} {n a c : Nat} {w : List Nat} (h : ¬ sb_nc t n a = sb_n c) : sb_lk t n a (c :: w) = 0 := by simp only [sb_lk]; rw [if_neg h]
theorem sb_lk1 {t : Nat → Int32} {n a c d : Nat} {w : List Nat} (h : sb_nc t n a = sb_n c) (h2 : ¬ sb_nc t n (a + 1) = sb_n d) : sb_lk t n a (c :: d :: w) = 1 := by simp only [sb_lk]; rw [if_pos h, if_neg h2]
theorem sb_lkp {t : Nat → Int32} {n a c : Nat} {w : List Nat} (h : sb_nc t n a = sb_n c) : 1 ≤ sb_lk t n a (c :: w) := by simp only [sb_lk]; rw [if_pos h]; omega
/-- the outcome of one word -/
def sb_w1 (t : Nat → Int32) (n a i : Nat) (w : List Nat) : Int × Nat := if sb_lk t n a w = w.length then ((i : Int), a + w.length) else (-1, a + sb_lk t n a w)
section WM
variable {t : Nat → Int32} {n a base : Nat} {s : sv_S}
theorem sb_wd_good (hc : sb_nc t n a = sb_n 103) (hd : ¬ sb_nc t n (a + 1) = sb_n 97) : sb_wd t n a = sb_w1 t n a 0 [103, 111, 111, 100] := by
  have l1 : sb_lk t n a [116, 101, 114, 109] = 0 := sb_lk0 (by rw [hc]; decide)
  have l2 : sb_lk t n a [115, 109, 97, 108, 108] = 0 := sb_lk0 (by rw [hc]; decide)
  have l3 : sb_lk t n a [110, 111, 116, 105, 99, 101] = 0 := sb_lk0 (by rw [hc]; decide)
  have l4 : sb_lk t n a [98, 97, 99, 107] = 0 := sb_lk0 (by rw [hc]; decide)
  have l5 : sb_lk t n a [103, 97, 105, 110] = 1 := sb_lk1 hc hd
  have l6 : sb_lk t n a [109, 105, 108, 101, 115] = 0 := sb_lk0 (by rw [hc]; decide)
  have l7 : sb_lk t n a [101, 118, 101, 110] = 0 := sb_lk0 (by rw [hc]; decide)
  have l8 : sb_lk t n a [109, 111, 115, 116] = 0 := sb_lk0 (by rw [hc]; decide)
  have l9 : sb_lk t n a [115, 97, 109, 101] = 0 := sb_lk0 (by rw [hc]; decide)
  have l10 : sb_lk t n a [101, 120, 99, 117, 115, 101] = 0 := sb_lk0 (by rw [hc]; decide)
  have lp : 1 ≤ sb_lk t n a [103, 111, 111, 100] := sb_lkp hc
  unfold sb_wd sb_w1 sb_ws
  simp only [sb_wgo, l1, l2, l3, l4, l5, l6, l7, l8, l9, l10]
  generalize sb_lk t n a [103, 111, 111, 100] = l at lp ⊢
  simp only [List.length_cons, List.length_nil, Nat.reduceAdd, Nat.reduceEqDiff, if_false]
  split
  · simp
  · simp <;> omega
theorem sb_wd_term (hc : sb_nc t n a = sb_n 116) : sb_wd t n a = sb_w1 t n a 1 [116, 101, 114, 109] := by
  have l0 : sb_lk t n a [103, 111, 111, 100] = 0 := sb_lk0 (by rw [hc]; decide)
  have l2 : sb_lk t n a [115, 109, 97, 108, 108] = 0 := sb_lk0 (by rw [hc]; decide)
  have l3 : sb_lk t n a [110, 111, 116, 105, 99, 101] = 0 := sb_lk0 (by rw [hc]; decide)
  have l4 : sb_lk t n a [98, 97, 99, 107] = 0 := sb_lk0 (by rw [hc]; decide)
  have l5 : sb_lk t n a [103, 97, 105, 110] = 0 := sb_lk0 (by rw [hc]; decide)
  have l6 : sb_lk t n a [109, 105, 108, 101, 115] = 0 := sb_lk0 (by rw [hc]; decide)
  have l7 : sb_lk t n a [101, 118, 101, 110] = 0 := sb_lk0 (by rw [hc]; decide)
  have l8 : sb_lk t n a [109, 111, 115, 116] = 0 := sb_lk0 (by rw [hc]; decide)
  have l9 : sb_lk t n a [115, 97, 109, 101] = 0 := sb_lk0 (by rw [hc]; decide)
  have l10 : sb_lk t n a [101, 120, 99, 117, 115, 101] = 0 := sb_lk0 (by rw [hc]; decide)
  have lp : 1 ≤ sb_lk t n a [116, 101, 114, 109] := sb_lkp hc
  unfold sb_wd sb_w1 sb_ws
  simp only [sb_wgo, l0, l2, l3, l4, l5, l6, l7, l8, l9, l10]
  generalize sb_lk t n a [116, 101, 114, 109] = l at lp ⊢
  simp only [List.length_cons, List.length_nil, Nat.reduceAdd, Nat.reduceEqDiff, if_false]
  split
  · simp
  · simp <;> omega
theorem sb_wd_small (hc : sb_nc t n a = sb_n 115) (hd : ¬ sb_nc t n (a + 1) = sb_n 97) : sb_wd t n a = sb_w1 t n a 2 [115, 109, 97, 108, 108] := by
  have l0 : sb_lk t n a [103, 111, 111, 100] = 0 := sb_lk0 (by rw [hc]; decide)
  have l1 : sb_lk t n a [116, 101, 114, 109] = 0 := sb_lk0 (by rw [hc]; decide)
  have l3 : sb_lk t n a [110, 111, 116, 105, 99, 101] = 0 := sb_lk0 (by rw [hc]; decide)
  have l4 : sb_lk t n a [98, 97, 99, 107] = 0 := sb_lk0 (by rw [hc]; decide)
  have l5 : sb_lk t n a [103, 97, 105, 110] = 0 := sb_lk0 (by rw [hc]; decide)
  have l6 : sb_lk t n a [109, 105, 108, 101, 115] = 0 := sb_lk0 (by rw [hc]; decide)
  have l7 : sb_lk t n a [101, 118, 101, 110] = 0 := sb_lk0 (by rw [hc]; decide)
  have l8 : sb_lk t n a [109, 111, 115, 116] = 0 := sb_lk0 (by rw [hc]; decide)
  have l9 : sb_lk t n a [115, 97, 109, 101] = 1 := sb_lk1 hc hd
  have l10 : sb_lk t n a [101, 120, 99, 117, 115, 101] = 0 := sb_lk0 (by rw [hc]; decide)
  have lp : 1 ≤ sb_lk t n a [115, 109, 97, 108, 108] := sb_lkp hc
  unfold sb_wd sb_w1 sb_ws
  simp only [sb_wgo, l0, l1, l3, l4, l5, l6, l7, l8, l9, l10]
  generalize sb_lk t n a [115, 109, 97, 108, 108] = l at lp ⊢
  simp only [List.length_cons, List.length_nil, Nat.reduceAdd, Nat.reduceEqDiff, if_false]
  split
  · simp
  · simp <;> omega
theorem sb_wd_notice (hc : sb_nc t n a = sb_n 110) : sb_wd t n a = sb_w1 t n a 3 [110, 111, 116, 105, 99, 101] := by
  have l0 : sb_lk t n a [103, 111, 111, 100] = 0 := sb_lk0 (by rw [hc]; decide)
  have l1 : sb_lk t n a [116, 101, 114, 109] = 0 := sb_lk0 (by rw [hc]; decide)
  have l2 : sb_lk t n a [115, 109, 97, 108, 108] = 0 := sb_lk0 (by rw [hc]; decide)
  have l4 : sb_lk t n a [98, 97, 99, 107] = 0 := sb_lk0 (by rw [hc]; decide)
  have l5 : sb_lk t n a [103, 97, 105, 110] = 0 := sb_lk0 (by rw [hc]; decide)
  have l6 : sb_lk t n a [109, 105, 108, 101, 115] = 0 := sb_lk0 (by rw [hc]; decide)
  have l7 : sb_lk t n a [101, 118, 101, 110] = 0 := sb_lk0 (by rw [hc]; decide)
  have l8 : sb_lk t n a [109, 111, 115, 116] = 0 := sb_lk0 (by rw [hc]; decide)
  have l9 : sb_lk t n a [115, 97, 109, 101] = 0 := sb_lk0 (by rw [hc]; decide)
  have l10 : sb_lk t n a [101, 120, 99, 117, 115, 101] = 0 := sb_lk0 (by rw [hc]; decide)
  have lp : 1 ≤ sb_lk t n a [110, 111, 116, 105, 99, 101] := sb_lkp hc
  unfold sb_wd sb_w1 sb_ws
  simp only [sb_wgo, l0, l1, l2, l4, l5, l6, l7, l8, l9, l10]
  generalize sb_lk t n a [110, 111, 116, 105, 99, 101] = l at lp ⊢
  simp only [List.length_cons, List.length_nil, Nat.reduceAdd, Nat.reduceEqDiff, if_false]
  split
  · simp
  · simp <;> omega
theorem sb_wd_back (hc : sb_nc t n a = sb_n 98) : sb_wd t n a = sb_w1 t n a 4 [98, 97, 99, 107] := by
  have l0 : sb_lk t n a [103, 111, 111, 100] = 0 := sb_lk0 (by rw [hc]; decide)
  have l1 : sb_lk t n a [116, 101, 114, 109] = 0 := sb_lk0 (by rw [hc]; decide)
  have l2 : sb_lk t n a [115, 109, 97, 108, 108] = 0 := sb_lk0 (by rw [hc]; decide)
  have l3 : sb_lk t n a [110, 111, 116, 105, 99, 101] = 0 := sb_lk0 (by rw [hc]; decide)
  have l5 : sb_lk t n a [103, 97, 105, 110] = 0 := sb_lk0 (by rw [hc]; decide)
  have l6 : sb_lk t n a [109, 105, 108, 101, 115] = 0 := sb_lk0 (by rw [hc]; decide)
  have l7 : sb_lk t n a [101, 118, 101, 110] = 0 := sb_lk0 (by rw [hc]; decide)
  have l8 : sb_lk t n a [109, 111, 115, 116] = 0 := sb_lk0 (by rw [hc]; decide)
  have l9 : sb_lk t n a [115, 97, 109, 101] = 0 := sb_lk0 (by rw [hc]; decide)
  have l10 : sb_lk t n a [101, 120, 99, 117, 115, 101] = 0 := sb_lk0 (by rw [hc]; decide)
  have lp : 1 ≤ sb_lk t n a [98, 97, 99, 107] := sb_lkp hc
  unfold sb_wd sb_w1 sb_ws
  simp only [sb_wgo, l0, l1, l2, l3, l5, l6, l7, l8, l9, l10]
  generalize sb_lk t n a [98, 97, 99, 107] = l at lp ⊢
  simp only [List.length_cons, List.length_nil, Nat.reduceAdd, Nat.reduceEqDiff, if_false]
  split
  · simp
  · simp <;> omega
theorem sb_wd_gain (hc : sb_nc t n a = sb_n 103) (hd : sb_nc t n (a + 1) = sb_n 97) : sb_wd t n a = sb_w1 t n a 5 [103, 97, 105, 110] := by
  have l0 : sb_lk t n a [103, 111, 111, 100] = 1 := sb_lk1 hc (by rw [hd]; decide)
  have l1 : sb_lk t n a [116, 101, 114, 109] = 0 := sb_lk0 (by rw [hc]; decide)
  have l2 : sb_lk t n a [115, 109, 97, 108, 108] = 0 := sb_lk0 (by rw [hc]; decide)
  have l3 : sb_lk t n a [110, 111, 116, 105, 99, 101] = 0 := sb_lk0 (by rw [hc]; decide)
  have l4 : sb_lk t n a [98, 97, 99, 107] = 0 := sb_lk0 (by rw [hc]; decide)
  have l6 : sb_lk t n a [109, 105, 108, 101, 115] = 0 := sb_lk0 (by rw [hc]; decide)
  have l7 : sb_lk t n a [101, 118, 101, 110] = 0 := sb_lk0 (by rw [hc]; decide)
  have l8 : sb_lk t n a [109, 111, 115, 116] = 0 := sb_lk0 (by rw [hc]; decide)
  have l9 : sb_lk t n a [115, 97, 109, 101] = 0 := sb_lk0 (by rw [hc]; decide)
  have l10 : sb_lk t n a [101, 120, 99, 117, 115, 101] = 0 := sb_lk0 (by rw [hc]; decide)
  have lp : 1 ≤ sb_lk t n a [103, 97, 105, 110] := sb_lkp hc
  unfold sb_wd sb_w1 sb_ws
  simp only [sb_wgo, l0, l1, l2, l3, l4, l6, l7, l8, l9, l10]
  generalize sb_lk t n a [103, 97, 105, 110] = l at lp ⊢
  simp only [List.length_cons, List.length_nil, Nat.reduceAdd, Nat.reduceEqDiff, if_false]
  split
  · simp
  · simp <;> omega
theorem sb_wd_miles (hc : sb_nc t n a = sb_n 109) (hd : sb_nc t n (a + 1) = sb_n 105) : sb_wd t n a = sb_w1 t n a 6 [109, 105, 108, 101, 115] := by
  have l0 : sb_lk t n a [103, 111, 111, 100] = 0 := sb_lk0 (by rw [hc]; decide)
  have l1 : sb_lk t n a [116, 101, 114, 109] = 0 := sb_lk0 (by rw [hc]; decide)
  have l2 : sb_lk t n a [115, 109, 97, 108, 108] = 0 := sb_lk0 (by rw [hc]; decide)
  have l3 : sb_lk t n a [110, 111, 116, 105, 99, 101] = 0 := sb_lk0 (by rw [hc]; decide)
  have l4 : sb_lk t n a [98, 97, 99, 107] = 0 := sb_lk0 (by rw [hc]; decide)
  have l5 : sb_lk t n a [103, 97, 105, 110] = 0 := sb_lk0 (by rw [hc]; decide)
  have l7 : sb_lk t n a [101, 118, 101, 110] = 0 := sb_lk0 (by rw [hc]; decide)
  have l8 : sb_lk t n a [109, 111, 115, 116] = 1 := sb_lk1 hc (by rw [hd]; decide)
  have l9 : sb_lk t n a [115, 97, 109, 101] = 0 := sb_lk0 (by rw [hc]; decide)
  have l10 : sb_lk t n a [101, 120, 99, 117, 115, 101] = 0 := sb_lk0 (by rw [hc]; decide)
  have lp : 1 ≤ sb_lk t n a [109, 105, 108, 101, 115] := sb_lkp hc
  unfold sb_wd sb_w1 sb_ws
  simp only [sb_wgo, l0, l1, l2, l3, l4, l5, l7, l8, l9, l10]
  generalize sb_lk t n a [109, 105, 108, 101, 115] = l at lp ⊢
  simp only [List.length_cons, List.length_nil, Nat.reduceAdd, Nat.reduceEqDiff, if_false]
  split
  · simp
  · simp <;> omega
theorem sb_wd_even (hc : sb_nc t n a = sb_n 101) (hd : ¬ sb_nc t n (a + 1) = sb_n 120) : sb_wd t n a = sb_w1 t n a 7 [101, 118, 101, 110] := by
  have l0 : sb_lk t n a [103, 111, 111, 100] = 0 := sb_lk0 (by rw [hc]; decide)
  have l1 : sb_lk t n a [116, 101, 114, 109] = 0 := sb_lk0 (by rw [hc]; decide)
  have l2 : sb_lk t n a [115, 109, 97, 108, 108] = 0 := sb_lk0 (by rw [hc]; decide)
  have l3 : sb_lk t n a [110, 111, 116, 105, 99, 101] = 0 := sb_lk0 (by rw [hc]; decide)
  have l4 : sb_lk t n a [98, 97, 99, 107] = 0 := sb_lk0 (by rw [hc]; decide)
  have l5 : sb_lk t n a [103, 97, 105, 110] = 0 := sb_lk0 (by rw [hc]; decide)
  have l6 : sb_lk t n a [109, 105, 108, 101, 115] = 0 := sb_lk0 (by rw [hc]; decide)
  have l8 : sb_lk t n a [109, 111, 115, 116] = 0 := sb_lk0 (by rw [hc]; decide)
  have l9 : sb_lk t n a [115, 97, 109, 101] = 0 := sb_lk0 (by rw [hc]; decide)
  have l10 : sb_lk t n a [101, 120, 99, 117, 115, 101] = 1 := sb_lk1 hc hd
  have lp : 1 ≤ sb_lk t n a [101, 118, 101, 110] := sb_lkp hc
  unfold sb_wd sb_w1 sb_ws
  simp only [sb_wgo, l0, l1, l2, l3, l4, l5, l6, l8, l9, l10]
  generalize sb_lk t n a [101, 118, 101, 110] = l at lp ⊢
  simp only [List.length_cons, List.length_nil, Nat.reduceAdd, Nat.reduceEqDiff, if_false]
  split
  · simp
  · simp <;> omega
theorem sb_wd_most (hc : sb_nc t n a = sb_n 109) (hd : ¬ sb_nc t n (a + 1) = sb_n 105) : sb_wd t n a = sb_w1 t n a 8 [109, 111, 115, 116] := by
  have l0 : sb_lk t n a [103, 111, 111, 100] = 0 := sb_lk0 (by rw [hc]; decide)
  have l1 : sb_lk t n a [116, 101, 114, 109] = 0 := sb_lk0 (by rw [hc]; decide)
  have l2 : sb_lk t n a [115, 109, 97, 108, 108] = 0 := sb_lk0 (by rw [hc]; decide)
  have l3 : sb_lk t n a [110, 111, 116, 105, 99, 101] = 0 := sb_lk0 (by rw [hc]; decide)
  have l4 : sb_lk t n a [98, 97, 99, 107] = 0 := sb_lk0 (by rw [hc]; decide)
  have l5 : sb_lk t n a [103, 97, 105, 110] = 0 := sb_lk0 (by rw [hc]; decide)
  have l6 : sb_lk t n a [109, 105, 108, 101, 115] = 1 := sb_lk1 hc hd
  have l7 : sb_lk t n a [101, 118, 101, 110] = 0 := sb_lk0 (by rw [hc]; decide)
  have l9 : sb_lk t n a [115, 97, 109, 101] = 0 := sb_lk0 (by rw [hc]; decide)
  have l10 : sb_lk t n a [101, 120, 99, 117, 115, 101] = 0 := sb_lk0 (by rw [hc]; decide)
  have lp : 1 ≤ sb_lk t n a [109, 111, 115, 116] := sb_lkp hc
  unfold sb_wd sb_w1 sb_ws
  simp only [sb_wgo, l0, l1, l2, l3, l4, l5, l6, l7, l9, l10]
  generalize sb_lk t n a [109, 111, 115, 116] = l at lp ⊢
  simp only [List.length_cons, List.length_nil, Nat.reduceAdd, Nat.reduceEqDiff, if_false]
  split
  · simp
  · simp <;> omega
theorem sb_wd_same (hc : sb_nc t n a = sb_n 115) (hd : sb_nc t n (a + 1) = sb_n 97) : sb_wd t n a = sb_w1 t n a 9 [115, 97, 109, 101] := by
  have l0 : sb_lk t n a [103, 111, 111, 100] = 0 := sb_lk0 (by rw [hc]; decide)
  have l1 : sb_lk t n a [116, 101, 114, 109] = 0 := sb_lk0 (by rw [hc]; decide)
  have l2 : sb_lk t n a [115, 109, 97, 108, 108] = 1 := sb_lk1 hc (by rw [hd]; decide)
  have l3 : sb_lk t n a [110, 111, 116, 105, 99, 101] = 0 := sb_lk0 (by rw [hc]; decide)
  have l4 : sb_lk t n a [98, 97, 99, 107] = 0 := sb_lk0 (by rw [hc]; decide)
  have l5 : sb_lk t n a [103, 97, 105, 110] = 0 := sb_lk0 (by rw [hc]; decide)
  have l6 : sb_lk t n a [109, 105, 108, 101, 115] = 0 := sb_lk0 (by rw [hc]; decide)
  have l7 : sb_lk t n a [101, 118, 101, 110] = 0 := sb_lk0 (by rw [hc]; decide)
  have l8 : sb_lk t n a [109, 111, 115, 116] = 0 := sb_lk0 (by rw [hc]; decide)
  have l10 : sb_lk t n a [101, 120, 99, 117, 115, 101] = 0 := sb_lk0 (by rw [hc]; decide)
  have lp : 1 ≤ sb_lk t n a [115, 97, 109, 101] := sb_lkp hc
  unfold sb_wd sb_w1 sb_ws
  simp only [sb_wgo, l0, l1, l2, l3, l4, l5, l6, l7, l8, l10]
  generalize sb_lk t n a [115, 97, 109, 101] = l at lp ⊢
  simp only [List.length_cons, List.length_nil, Nat.reduceAdd, Nat.reduceEqDiff, if_false]
  split
  · simp
  · simp <;> omega
theorem sb_wd_excuse (hc : sb_nc t n a = sb_n 101) (hd : sb_nc t n (a + 1) = sb_n 120) : sb_wd t n a = sb_w1 t n a 10 [101, 120, 99, 117, 115, 101] := by
  have l0 : sb_lk t n a [103, 111, 111, 100] = 0 := sb_lk0 (by rw [hc]; decide)
  have l1 : sb_lk t n a [116, 101, 114, 109] = 0 := sb_lk0 (by rw [hc]; decide)
  have l2 : sb_lk t n a [115, 109, 97, 108, 108] = 0 := sb_lk0 (by rw [hc]; decide)
  have l3 : sb_lk t n a [110, 111, 116, 105, 99, 101] = 0 := sb_lk0 (by rw [hc]; decide)
  have l4 : sb_lk t n a [98, 97, 99, 107] = 0 := sb_lk0 (by rw [hc]; decide)
  have l5 : sb_lk t n a [103, 97, 105, 110] = 0 := sb_lk0 (by rw [hc]; decide)
  have l6 : sb_lk t n a [109, 105, 108, 101, 115] = 0 := sb_lk0 (by rw [hc]; decide)
  have l7 : sb_lk t n a [101, 118, 101, 110] = 1 := sb_lk1 hc (by rw [hd]; decide)
  have l8 : sb_lk t n a [109, 111, 115, 116] = 0 := sb_lk0 (by rw [hc]; decide)
  have l9 : sb_lk t n a [115, 97, 109, 101] = 0 := sb_lk0 (by rw [hc]; decide)
  have lp : 1 ≤ sb_lk t n a [101, 120, 99, 117, 115, 101] := sb_lkp hc
  unfold sb_wd sb_w1 sb_ws
  simp only [sb_wgo, l0, l1, l2, l3, l4, l5, l6, l7, l8, l9]
  generalize sb_lk t n a [101, 120, 99, 117, 115, 101] = l at lp ⊢
  simp only [List.length_cons, List.length_nil, Nat.reduceAdd, Nat.reduceEqDiff, if_false]
  split
  · simp
  · simp <;> omega
theorem sb_wd_none (h98 : ¬ sb_nc t n a = sb_n 98) (h101 : ¬ sb_nc t n a = sb_n 101) (h103 : ¬ sb_nc t n a = sb_n 103) (h109 : ¬ sb_nc t n a = sb_n 109) (h110 : ¬ sb_nc t n a = sb_n 110) (h115 : ¬ sb_nc t n a = sb_n 115) (h116 : ¬ sb_nc t n a = sb_n 116) : sb_wd t n a = (-1, a) := by
  have l0 : sb_lk t n a [103, 111, 111, 100] = 0 := sb_lk0 h103
  have l1 : sb_lk t n a [116, 101, 114, 109] = 0 := sb_lk0 h116
  have l2 : sb_lk t n a [115, 109, 97, 108, 108] = 0 := sb_lk0 h115
  have l3 : sb_lk t n a [110, 111, 116, 105, 99, 101] = 0 := sb_lk0 h110
  have l4 : sb_lk t n a [98, 97, 99, 107] = 0 := sb_lk0 h98
  have l5 : sb_lk t n a [103, 97, 105, 110] = 0 := sb_lk0 h103
  have l6 : sb_lk t n a [109, 105, 108, 101, 115] = 0 := sb_lk0 h109
  have l7 : sb_lk t n a [101, 118, 101, 110] = 0 := sb_lk0 h101
  have l8 : sb_lk t n a [109, 111, 115, 116] = 0 := sb_lk0 h109
  have l9 : sb_lk t n a [115, 97, 109, 101] = 0 := sb_lk0 h115
  have l10 : sb_lk t n a [101, 120, 99, 117, 115, 101] = 0 := sb_lk0 h101
  unfold sb_wd sb_ws
  simp only [sb_wgo, l0, l1, l2, l3, l4, l5, l6, l7, l8, l9, l10, List.length_cons, List.length_nil, Nat.reduceAdd, Nat.reduceEqDiff, if_false]
  simp
/-- letter j of a word's number -/
def sb_let (y : Int64) (j : Nat) : Int32 := (96 : Int32) + (((y >>> (((5 : Int32) * sb_n j).toInt64 &&& 63)) &&& (31 : Int64)).toInt32)
def sb_wc (y : Int64) : List Nat → Bool
  | [] => true
  | c :: w => decide (sb_let y w.length = sb_n c) && sb_wc y w
theorem sb_Mo_word {y : Int64} : ∀ (w : List Nat) (f a : Nat) (u : sv_S), w.length ≤ 6 → w.length < f → sb_wc y w = true → (∀ c, c ∈ w → c ≤ 127) → sb_MT t n a base u → sb_fr [187025] s u → sb_W (F_Mo_takesWord_b5 f y (sb_i ((w.length : Int) - 1)) u) (fun r => r.1 = sb_b (decide (sb_lk t n a w = w.length)) ∧ sb_MT t n (a + sb_lk t n a w) base r.2 ∧ sb_fr [187025] s r.2) := by
  intro w
  induction w with
  | nil =>
    intro f a u _ hf _ _ h hfr
    obtain ⟨f, rfl⟩ : ∃ g, f = g + 1 := ⟨f - 1, by simp at hf; omega⟩
    simp only [F_Mo_takesWord_b5]
    refine sb_Wpos (by decide) (sb_Wsome ⟨rfl, h, hfr⟩)
  | cons c w ih =>
    intro f a u h6 hf hw hc h hfr
    rw [List.length_cons] at h6 hf
    obtain ⟨f, rfl⟩ : ∃ g, f = g + 1 := ⟨f - 1, by omega⟩
    simp only [sb_wc, Bool.and_eq_true, decide_eq_true_eq] at hw
    simp only [F_Mo_takesWord_b5]
    have e0 : sb_i (((c :: w).length : Int) - 1) = sb_n w.length := by rw [sb_n_i, List.length_cons]; congr 1; omega
    rw [e0]
    refine sb_Wneg (by rw [show (0 : Int32) = sb_n 0 from rfl, sb_n_lt (by omega) (by omega)]; omega) ?_
    have e1 : (96 : Int32) + (((y >>> (((5 : Int32) * sb_n w.length).toInt64 &&& 63)) &&& (31 : Int64)).toInt32) = sb_n c := hw.1
    rw [e1, sb_Mo_takes h]
    refine sb_Wbind (sb_Wsome ?_)
    by_cases q : sb_nc t n a = sb_n c
    · have hlt := sb_nc_lt (hc c (by simp)) q
      have el : sb_lk t n a (c :: w) = sb_lk t n (a + 1) w + 1 := by simp only [sb_lk]; rw [if_pos q]
      rw [if_pos q]
      simp only [el]
      refine sb_Wneg sb_10 (sb_Wlet ?_)
      have e2 : sb_n w.length + (-1 : Int32) = sb_i ((w.length : Int) - 1) := by rw [sb_m1, sb_n_i, sb_i_add]; rfl
      rw [e2]
      refine sb_Wmono (ih f (a + 1) _ (by omega) (by omega) hw.2 (fun x hx => hc x (by simp [hx])) (sb_MT_at h (by omega)) (sb_fr_set hfr rfl)) (fun r hr => ?_)
      refine ⟨?_, ?_, hr.2.2⟩
      · rw [hr.1]; congr 1; exact decide_eq_decide.mpr (by rw [List.length_cons]; omega)
      · rw [show a + (sb_lk t n (a + 1) w + 1) = a + 1 + sb_lk t n (a + 1) w by omega]; exact hr.2.1
    · have el : sb_lk t n a (c :: w) = 0 := sb_lk0 q
      rw [if_neg q]
      simp only [el]
      refine sb_Wpos rfl (sb_Wsome ⟨?_, h, hfr⟩)
      rw [decide_eq_false (by rw [List.length_cons]; omega)]; rfl

theorem sb_Mo_w_good (h : sb_MT t n a base s) : sb_W (F_Mo_takesWord (245220 : Int64) (4 : Int32) s) (fun r => r.1 = sb_b (decide (sb_lk t n a [103, 111, 111, 100] = 4)) ∧ sb_MT t n (a + sb_lk t n a [103, 111, 111, 100]) base r.2 ∧ sb_fr [187025] s r.2) := by
  unfold F_Mo_takesWord
  refine sb_Wlet ?_
  have e : (4 : Int32) - (1 : Int32) = sb_i ((([103, 111, 111, 100] : List Nat).length : Int) - 1) := by decide +kernel
  rw [e]
  exact sb_Mo_word [103, 111, 111, 100] ss_F a s (by decide) (by decide) (by decide +kernel) (by decide) h (sb_fr_refl _ _)
theorem sb_Mo_w_term (h : sb_MT t n a base s) : sb_W (F_Mo_takesWord (661069 : Int64) (4 : Int32) s) (fun r => r.1 = sb_b (decide (sb_lk t n a [116, 101, 114, 109] = 4)) ∧ sb_MT t n (a + sb_lk t n a [116, 101, 114, 109]) base r.2 ∧ sb_fr [187025] s r.2) := by
  unfold F_Mo_takesWord
  refine sb_Wlet ?_
  have e : (4 : Int32) - (1 : Int32) = sb_i ((([116, 101, 114, 109] : List Nat).length : Int) - 1) := by decide +kernel
  rw [e]
  exact sb_Mo_word [116, 101, 114, 109] ss_F a s (by decide) (by decide) (by decide +kernel) (by decide) h (sb_fr_refl _ _)
theorem sb_Mo_w_small (h : sb_MT t n a base s) : sb_W (F_Mo_takesWord (20350348 : Int64) (5 : Int32) s) (fun r => r.1 = sb_b (decide (sb_lk t n a [115, 109, 97, 108, 108] = 5)) ∧ sb_MT t n (a + sb_lk t n a [115, 109, 97, 108, 108]) base r.2 ∧ sb_fr [187025] s r.2) := by
  unfold F_Mo_takesWord
  refine sb_Wlet ?_
  have e : (5 : Int32) - (1 : Int32) = sb_i ((([115, 109, 97, 108, 108] : List Nat).length : Int) - 1) := by decide +kernel
  rw [e]
  exact sb_Mo_word [115, 109, 97, 108, 108] ss_F a s (by decide) (by decide) (by decide +kernel) (by decide) h (sb_fr_refl _ _)
theorem sb_Mo_w_notice (h : sb_MT t n a base s) : sb_W (F_Mo_takesWord (486155365 : Int64) (6 : Int32) s) (fun r => r.1 = sb_b (decide (sb_lk t n a [110, 111, 116, 105, 99, 101] = 6)) ∧ sb_MT t n (a + sb_lk t n a [110, 111, 116, 105, 99, 101]) base r.2 ∧ sb_fr [187025] s r.2) := by
  unfold F_Mo_takesWord
  refine sb_Wlet ?_
  have e : (6 : Int32) - (1 : Int32) = sb_i ((([110, 111, 116, 105, 99, 101] : List Nat).length : Int) - 1) := by decide +kernel
  rw [e]
  exact sb_Mo_word [110, 111, 116, 105, 99, 101] ss_F a s (by decide) (by decide) (by decide +kernel) (by decide) h (sb_fr_refl _ _)
theorem sb_Mo_w_back (h : sb_MT t n a base s) : sb_W (F_Mo_takesWord (66667 : Int64) (4 : Int32) s) (fun r => r.1 = sb_b (decide (sb_lk t n a [98, 97, 99, 107] = 4)) ∧ sb_MT t n (a + sb_lk t n a [98, 97, 99, 107]) base r.2 ∧ sb_fr [187025] s r.2) := by
  unfold F_Mo_takesWord
  refine sb_Wlet ?_
  have e : (4 : Int32) - (1 : Int32) = sb_i ((([98, 97, 99, 107] : List Nat).length : Int) - 1) := by decide +kernel
  rw [e]
  exact sb_Mo_word [98, 97, 99, 107] ss_F a s (by decide) (by decide) (by decide +kernel) (by decide) h (sb_fr_refl _ _)
theorem sb_Mo_w_gain (h : sb_MT t n a base s) : sb_W (F_Mo_takesWord (230702 : Int64) (4 : Int32) s) (fun r => r.1 = sb_b (decide (sb_lk t n a [103, 97, 105, 110] = 4)) ∧ sb_MT t n (a + sb_lk t n a [103, 97, 105, 110]) base r.2 ∧ sb_fr [187025] s r.2) := by
  unfold F_Mo_takesWord
  refine sb_Wlet ?_
  have e : (4 : Int32) - (1 : Int32) = sb_i ((([103, 97, 105, 110] : List Nat).length : Int) - 1) := by decide +kernel
  rw [e]
  exact sb_Mo_word [103, 97, 105, 110] ss_F a s (by decide) (by decide) (by decide +kernel) (by decide) h (sb_fr_refl _ _)
theorem sb_Mo_w_miles (h : sb_MT t n a base s) : sb_W (F_Mo_takesWord (13938867 : Int64) (5 : Int32) s) (fun r => r.1 = sb_b (decide (sb_lk t n a [109, 105, 108, 101, 115] = 5)) ∧ sb_MT t n (a + sb_lk t n a [109, 105, 108, 101, 115]) base r.2 ∧ sb_fr [187025] s r.2) := by
  unfold F_Mo_takesWord
  refine sb_Wlet ?_
  have e : (5 : Int32) - (1 : Int32) = sb_i ((([109, 105, 108, 101, 115] : List Nat).length : Int) - 1) := by decide +kernel
  rw [e]
  exact sb_Mo_word [109, 105, 108, 101, 115] ss_F a s (by decide) (by decide) (by decide +kernel) (by decide) h (sb_fr_refl _ _)
theorem sb_Mo_w_even (h : sb_MT t n a base s) : sb_W (F_Mo_takesWord (186542 : Int64) (4 : Int32) s) (fun r => r.1 = sb_b (decide (sb_lk t n a [101, 118, 101, 110] = 4)) ∧ sb_MT t n (a + sb_lk t n a [101, 118, 101, 110]) base r.2 ∧ sb_fr [187025] s r.2) := by
  unfold F_Mo_takesWord
  refine sb_Wlet ?_
  have e : (4 : Int32) - (1 : Int32) = sb_i ((([101, 118, 101, 110] : List Nat).length : Int) - 1) := by decide +kernel
  rw [e]
  exact sb_Mo_word [101, 118, 101, 110] ss_F a s (by decide) (by decide) (by decide +kernel) (by decide) h (sb_fr_refl _ _)
theorem sb_Mo_w_most (h : sb_MT t n a base s) : sb_W (F_Mo_takesWord (441972 : Int64) (4 : Int32) s) (fun r => r.1 = sb_b (decide (sb_lk t n a [109, 111, 115, 116] = 4)) ∧ sb_MT t n (a + sb_lk t n a [109, 111, 115, 116]) base r.2 ∧ sb_fr [187025] s r.2) := by
  unfold F_Mo_takesWord
  refine sb_Wlet ?_
  have e : (4 : Int32) - (1 : Int32) = sb_i ((([109, 111, 115, 116] : List Nat).length : Int) - 1) := by decide +kernel
  rw [e]
  exact sb_Mo_word [109, 111, 115, 116] ss_F a s (by decide) (by decide) (by decide +kernel) (by decide) h (sb_fr_refl _ _)
theorem sb_Mo_w_same (h : sb_MT t n a base s) : sb_W (F_Mo_takesWord (624037 : Int64) (4 : Int32) s) (fun r => r.1 = sb_b (decide (sb_lk t n a [115, 97, 109, 101] = 4)) ∧ sb_MT t n (a + sb_lk t n a [115, 97, 109, 101]) base r.2 ∧ sb_fr [187025] s r.2) := by
  unfold F_Mo_takesWord
  refine sb_Wlet ?_
  have e : (4 : Int32) - (1 : Int32) = sb_i ((([115, 97, 109, 101] : List Nat).length : Int) - 1) := by decide +kernel
  rw [e]
  exact sb_Mo_word [115, 97, 109, 101] ss_F a s (by decide) (by decide) (by decide +kernel) (by decide) h (sb_fr_refl _ _)
theorem sb_Mo_w_excuse (h : sb_MT t n a base s) : sb_W (F_Mo_takesWord (193058405 : Int64) (6 : Int32) s) (fun r => r.1 = sb_b (decide (sb_lk t n a [101, 120, 99, 117, 115, 101] = 6)) ∧ sb_MT t n (a + sb_lk t n a [101, 120, 99, 117, 115, 101]) base r.2 ∧ sb_fr [187025] s r.2) := by
  unfold F_Mo_takesWord
  refine sb_Wlet ?_
  have e : (6 : Int32) - (1 : Int32) = sb_i ((([101, 120, 99, 117, 115, 101] : List Nat).length : Int) - 1) := by decide +kernel
  rw [e]
  exact sb_Mo_word [101, 120, 99, 117, 115, 101] ss_F a s (by decide) (by decide) (by decide +kernel) (by decide) h (sb_fr_refl _ _)
end WM
