/-! the model's words are the class's -/
theorem zb_lk0 {t : Nat → Int32} {n a c : Nat} {w : List Nat} (h : ¬ zb_nc t n a = zb_n c) : zb_lk t n a (c :: w) = 0 := by simp only [zb_lk]; rw [if_neg h]
theorem zb_lk1 {t : Nat → Int32} {n a c d : Nat} {w : List Nat} (h : zb_nc t n a = zb_n c) (h2 : ¬ zb_nc t n (a + 1) = zb_n d) : zb_lk t n a (c :: d :: w) = 1 := by simp only [zb_lk]; rw [if_pos h, if_neg h2]
theorem zb_lkp {t : Nat → Int32} {n a c : Nat} {w : List Nat} (h : zb_nc t n a = zb_n c) : 1 ≤ zb_lk t n a (c :: w) := by simp only [zb_lk]; rw [if_pos h]; omega
/-- the outcome of one word -/
def zb_w1 (t : Nat → Int32) (n a i : Nat) (w : List Nat) : Int × Nat := if zb_lk t n a w = w.length then ((i : Int), a + w.length) else (-1, a + zb_lk t n a w)
section WM
variable {t : Nat → Int32} {n a base : Nat} {s : sv_S}
theorem zb_wd_good (hc : zb_nc t n a = zb_n 103) (hd : ¬ zb_nc t n (a + 1) = zb_n 97) : zb_wd t n a = zb_w1 t n a 0 [103, 111, 111, 100] := by
  have l1 : zb_lk t n a [116, 101, 114, 109] = 0 := zb_lk0 (by rw [hc]; decide)
  have l2 : zb_lk t n a [115, 109, 97, 108, 108] = 0 := zb_lk0 (by rw [hc]; decide)
  have l3 : zb_lk t n a [110, 111, 116, 105, 99, 101] = 0 := zb_lk0 (by rw [hc]; decide)
  have l4 : zb_lk t n a [98, 97, 99, 107] = 0 := zb_lk0 (by rw [hc]; decide)
  have l5 : zb_lk t n a [103, 97, 105, 110] = 1 := zb_lk1 hc hd
  have l6 : zb_lk t n a [109, 105, 108, 101, 115] = 0 := zb_lk0 (by rw [hc]; decide)
  have l7 : zb_lk t n a [101, 118, 101, 110] = 0 := zb_lk0 (by rw [hc]; decide)
  have l8 : zb_lk t n a [109, 111, 115, 116] = 0 := zb_lk0 (by rw [hc]; decide)
  have l9 : zb_lk t n a [115, 97, 109, 101] = 0 := zb_lk0 (by rw [hc]; decide)
  have l10 : zb_lk t n a [101, 120, 99, 117, 115, 101] = 0 := zb_lk0 (by rw [hc]; decide)
  have lp : 1 ≤ zb_lk t n a [103, 111, 111, 100] := zb_lkp hc
  unfold zb_wd zb_w1 zb_ws
  simp only [zb_wgo, l1, l2, l3, l4, l5, l6, l7, l8, l9, l10]
  generalize zb_lk t n a [103, 111, 111, 100] = l at lp ⊢
  simp only [List.length_cons, List.length_nil, Nat.reduceAdd, Nat.reduceEqDiff, if_false]
  split
  · simp
  · simp <;> omega
theorem zb_wd_term (hc : zb_nc t n a = zb_n 116) : zb_wd t n a = zb_w1 t n a 1 [116, 101, 114, 109] := by
  have l0 : zb_lk t n a [103, 111, 111, 100] = 0 := zb_lk0 (by rw [hc]; decide)
  have l2 : zb_lk t n a [115, 109, 97, 108, 108] = 0 := zb_lk0 (by rw [hc]; decide)
  have l3 : zb_lk t n a [110, 111, 116, 105, 99, 101] = 0 := zb_lk0 (by rw [hc]; decide)
  have l4 : zb_lk t n a [98, 97, 99, 107] = 0 := zb_lk0 (by rw [hc]; decide)
  have l5 : zb_lk t n a [103, 97, 105, 110] = 0 := zb_lk0 (by rw [hc]; decide)
  have l6 : zb_lk t n a [109, 105, 108, 101, 115] = 0 := zb_lk0 (by rw [hc]; decide)
  have l7 : zb_lk t n a [101, 118, 101, 110] = 0 := zb_lk0 (by rw [hc]; decide)
  have l8 : zb_lk t n a [109, 111, 115, 116] = 0 := zb_lk0 (by rw [hc]; decide)
  have l9 : zb_lk t n a [115, 97, 109, 101] = 0 := zb_lk0 (by rw [hc]; decide)
  have l10 : zb_lk t n a [101, 120, 99, 117, 115, 101] = 0 := zb_lk0 (by rw [hc]; decide)
  have lp : 1 ≤ zb_lk t n a [116, 101, 114, 109] := zb_lkp hc
  unfold zb_wd zb_w1 zb_ws
  simp only [zb_wgo, l0, l2, l3, l4, l5, l6, l7, l8, l9, l10]
  generalize zb_lk t n a [116, 101, 114, 109] = l at lp ⊢
  simp only [List.length_cons, List.length_nil, Nat.reduceAdd, Nat.reduceEqDiff, if_false]
  split
  · simp
  · simp <;> omega
theorem zb_wd_small (hc : zb_nc t n a = zb_n 115) (hd : ¬ zb_nc t n (a + 1) = zb_n 97) : zb_wd t n a = zb_w1 t n a 2 [115, 109, 97, 108, 108] := by
  have l0 : zb_lk t n a [103, 111, 111, 100] = 0 := zb_lk0 (by rw [hc]; decide)
  have l1 : zb_lk t n a [116, 101, 114, 109] = 0 := zb_lk0 (by rw [hc]; decide)
  have l3 : zb_lk t n a [110, 111, 116, 105, 99, 101] = 0 := zb_lk0 (by rw [hc]; decide)
  have l4 : zb_lk t n a [98, 97, 99, 107] = 0 := zb_lk0 (by rw [hc]; decide)
  have l5 : zb_lk t n a [103, 97, 105, 110] = 0 := zb_lk0 (by rw [hc]; decide)
  have l6 : zb_lk t n a [109, 105, 108, 101, 115] = 0 := zb_lk0 (by rw [hc]; decide)
  have l7 : zb_lk t n a [101, 118, 101, 110] = 0 := zb_lk0 (by rw [hc]; decide)
  have l8 : zb_lk t n a [109, 111, 115, 116] = 0 := zb_lk0 (by rw [hc]; decide)
  have l9 : zb_lk t n a [115, 97, 109, 101] = 1 := zb_lk1 hc hd
  have l10 : zb_lk t n a [101, 120, 99, 117, 115, 101] = 0 := zb_lk0 (by rw [hc]; decide)
  have lp : 1 ≤ zb_lk t n a [115, 109, 97, 108, 108] := zb_lkp hc
  unfold zb_wd zb_w1 zb_ws
  simp only [zb_wgo, l0, l1, l3, l4, l5, l6, l7, l8, l9, l10]
  generalize zb_lk t n a [115, 109, 97, 108, 108] = l at lp ⊢
  simp only [List.length_cons, List.length_nil, Nat.reduceAdd, Nat.reduceEqDiff, if_false]
  split
  · simp
  · simp <;> omega
theorem zb_wd_notice (hc : zb_nc t n a = zb_n 110) : zb_wd t n a = zb_w1 t n a 3 [110, 111, 116, 105, 99, 101] := by
  have l0 : zb_lk t n a [103, 111, 111, 100] = 0 := zb_lk0 (by rw [hc]; decide)
  have l1 : zb_lk t n a [116, 101, 114, 109] = 0 := zb_lk0 (by rw [hc]; decide)
  have l2 : zb_lk t n a [115, 109, 97, 108, 108] = 0 := zb_lk0 (by rw [hc]; decide)
  have l4 : zb_lk t n a [98, 97, 99, 107] = 0 := zb_lk0 (by rw [hc]; decide)
  have l5 : zb_lk t n a [103, 97, 105, 110] = 0 := zb_lk0 (by rw [hc]; decide)
  have l6 : zb_lk t n a [109, 105, 108, 101, 115] = 0 := zb_lk0 (by rw [hc]; decide)
  have l7 : zb_lk t n a [101, 118, 101, 110] = 0 := zb_lk0 (by rw [hc]; decide)
  have l8 : zb_lk t n a [109, 111, 115, 116] = 0 := zb_lk0 (by rw [hc]; decide)
  have l9 : zb_lk t n a [115, 97, 109, 101] = 0 := zb_lk0 (by rw [hc]; decide)
  have l10 : zb_lk t n a [101, 120, 99, 117, 115, 101] = 0 := zb_lk0 (by rw [hc]; decide)
  have lp : 1 ≤ zb_lk t n a [110, 111, 116, 105, 99, 101] := zb_lkp hc
  unfold zb_wd zb_w1 zb_ws
  simp only [zb_wgo, l0, l1, l2, l4, l5, l6, l7, l8, l9, l10]
  generalize zb_lk t n a [110, 111, 116, 105, 99, 101] = l at lp ⊢
  simp only [List.length_cons, List.length_nil, Nat.reduceAdd, Nat.reduceEqDiff, if_false]
  split
  · simp
  · simp <;> omega
theorem zb_wd_back (hc : zb_nc t n a = zb_n 98) : zb_wd t n a = zb_w1 t n a 4 [98, 97, 99, 107] := by
  have l0 : zb_lk t n a [103, 111, 111, 100] = 0 := zb_lk0 (by rw [hc]; decide)
  have l1 : zb_lk t n a [116, 101, 114, 109] = 0 := zb_lk0 (by rw [hc]; decide)
  have l2 : zb_lk t n a [115, 109, 97, 108, 108] = 0 := zb_lk0 (by rw [hc]; decide)
  have l3 : zb_lk t n a [110, 111, 116, 105, 99, 101] = 0 := zb_lk0 (by rw [hc]; decide)
  have l5 : zb_lk t n a [103, 97, 105, 110] = 0 := zb_lk0 (by rw [hc]; decide)
  have l6 : zb_lk t n a [109, 105, 108, 101, 115] = 0 := zb_lk0 (by rw [hc]; decide)
  have l7 : zb_lk t n a [101, 118, 101, 110] = 0 := zb_lk0 (by rw [hc]; decide)
  have l8 : zb_lk t n a [109, 111, 115, 116] = 0 := zb_lk0 (by rw [hc]; decide)
  have l9 : zb_lk t n a [115, 97, 109, 101] = 0 := zb_lk0 (by rw [hc]; decide)
  have l10 : zb_lk t n a [101, 120, 99, 117, 115, 101] = 0 := zb_lk0 (by rw [hc]; decide)
  have lp : 1 ≤ zb_lk t n a [98, 97, 99, 107] := zb_lkp hc
  unfold zb_wd zb_w1 zb_ws
  simp only [zb_wgo, l0, l1, l2, l3, l5, l6, l7, l8, l9, l10]
  generalize zb_lk t n a [98, 97, 99, 107] = l at lp ⊢
  simp only [List.length_cons, List.length_nil, Nat.reduceAdd, Nat.reduceEqDiff, if_false]
  split
  · simp
  · simp <;> omega
theorem zb_wd_gain (hc : zb_nc t n a = zb_n 103) (hd : zb_nc t n (a + 1) = zb_n 97) : zb_wd t n a = zb_w1 t n a 5 [103, 97, 105, 110] := by
  have l0 : zb_lk t n a [103, 111, 111, 100] = 1 := zb_lk1 hc (by rw [hd]; decide)
  have l1 : zb_lk t n a [116, 101, 114, 109] = 0 := zb_lk0 (by rw [hc]; decide)
  have l2 : zb_lk t n a [115, 109, 97, 108, 108] = 0 := zb_lk0 (by rw [hc]; decide)
  have l3 : zb_lk t n a [110, 111, 116, 105, 99, 101] = 0 := zb_lk0 (by rw [hc]; decide)
  have l4 : zb_lk t n a [98, 97, 99, 107] = 0 := zb_lk0 (by rw [hc]; decide)
  have l6 : zb_lk t n a [109, 105, 108, 101, 115] = 0 := zb_lk0 (by rw [hc]; decide)
  have l7 : zb_lk t n a [101, 118, 101, 110] = 0 := zb_lk0 (by rw [hc]; decide)
  have l8 : zb_lk t n a [109, 111, 115, 116] = 0 := zb_lk0 (by rw [hc]; decide)
  have l9 : zb_lk t n a [115, 97, 109, 101] = 0 := zb_lk0 (by rw [hc]; decide)
  have l10 : zb_lk t n a [101, 120, 99, 117, 115, 101] = 0 := zb_lk0 (by rw [hc]; decide)
  have lp : 1 ≤ zb_lk t n a [103, 97, 105, 110] := zb_lkp hc
  unfold zb_wd zb_w1 zb_ws
  simp only [zb_wgo, l0, l1, l2, l3, l4, l6, l7, l8, l9, l10]
  generalize zb_lk t n a [103, 97, 105, 110] = l at lp ⊢
  simp only [List.length_cons, List.length_nil, Nat.reduceAdd, Nat.reduceEqDiff, if_false]
  split
  · simp
  · simp <;> omega
theorem zb_wd_miles (hc : zb_nc t n a = zb_n 109) (hd : zb_nc t n (a + 1) = zb_n 105) : zb_wd t n a = zb_w1 t n a 6 [109, 105, 108, 101, 115] := by
  have l0 : zb_lk t n a [103, 111, 111, 100] = 0 := zb_lk0 (by rw [hc]; decide)
  have l1 : zb_lk t n a [116, 101, 114, 109] = 0 := zb_lk0 (by rw [hc]; decide)
  have l2 : zb_lk t n a [115, 109, 97, 108, 108] = 0 := zb_lk0 (by rw [hc]; decide)
  have l3 : zb_lk t n a [110, 111, 116, 105, 99, 101] = 0 := zb_lk0 (by rw [hc]; decide)
  have l4 : zb_lk t n a [98, 97, 99, 107] = 0 := zb_lk0 (by rw [hc]; decide)
  have l5 : zb_lk t n a [103, 97, 105, 110] = 0 := zb_lk0 (by rw [hc]; decide)
  have l7 : zb_lk t n a [101, 118, 101, 110] = 0 := zb_lk0 (by rw [hc]; decide)
  have l8 : zb_lk t n a [109, 111, 115, 116] = 1 := zb_lk1 hc (by rw [hd]; decide)
  have l9 : zb_lk t n a [115, 97, 109, 101] = 0 := zb_lk0 (by rw [hc]; decide)
  have l10 : zb_lk t n a [101, 120, 99, 117, 115, 101] = 0 := zb_lk0 (by rw [hc]; decide)
  have lp : 1 ≤ zb_lk t n a [109, 105, 108, 101, 115] := zb_lkp hc
  unfold zb_wd zb_w1 zb_ws
  simp only [zb_wgo, l0, l1, l2, l3, l4, l5, l7, l8, l9, l10]
  generalize zb_lk t n a [109, 105, 108, 101, 115] = l at lp ⊢
  simp only [List.length_cons, List.length_nil, Nat.reduceAdd, Nat.reduceEqDiff, if_false]
  split
  · simp
  · simp <;> omega
theorem zb_wd_even (hc : zb_nc t n a = zb_n 101) (hd : ¬ zb_nc t n (a + 1) = zb_n 120) : zb_wd t n a = zb_w1 t n a 7 [101, 118, 101, 110] := by
  have l0 : zb_lk t n a [103, 111, 111, 100] = 0 := zb_lk0 (by rw [hc]; decide)
  have l1 : zb_lk t n a [116, 101, 114, 109] = 0 := zb_lk0 (by rw [hc]; decide)
  have l2 : zb_lk t n a [115, 109, 97, 108, 108] = 0 := zb_lk0 (by rw [hc]; decide)
  have l3 : zb_lk t n a [110, 111, 116, 105, 99, 101] = 0 := zb_lk0 (by rw [hc]; decide)
  have l4 : zb_lk t n a [98, 97, 99, 107] = 0 := zb_lk0 (by rw [hc]; decide)
  have l5 : zb_lk t n a [103, 97, 105, 110] = 0 := zb_lk0 (by rw [hc]; decide)
  have l6 : zb_lk t n a [109, 105, 108, 101, 115] = 0 := zb_lk0 (by rw [hc]; decide)
  have l8 : zb_lk t n a [109, 111, 115, 116] = 0 := zb_lk0 (by rw [hc]; decide)
  have l9 : zb_lk t n a [115, 97, 109, 101] = 0 := zb_lk0 (by rw [hc]; decide)
  have l10 : zb_lk t n a [101, 120, 99, 117, 115, 101] = 1 := zb_lk1 hc hd
  have lp : 1 ≤ zb_lk t n a [101, 118, 101, 110] := zb_lkp hc
  unfold zb_wd zb_w1 zb_ws
  simp only [zb_wgo, l0, l1, l2, l3, l4, l5, l6, l8, l9, l10]
  generalize zb_lk t n a [101, 118, 101, 110] = l at lp ⊢
  simp only [List.length_cons, List.length_nil, Nat.reduceAdd, Nat.reduceEqDiff, if_false]
  split
  · simp
  · simp <;> omega
theorem zb_wd_most (hc : zb_nc t n a = zb_n 109) (hd : ¬ zb_nc t n (a + 1) = zb_n 105) : zb_wd t n a = zb_w1 t n a 8 [109, 111, 115, 116] := by
  have l0 : zb_lk t n a [103, 111, 111, 100] = 0 := zb_lk0 (by rw [hc]; decide)
  have l1 : zb_lk t n a [116, 101, 114, 109] = 0 := zb_lk0 (by rw [hc]; decide)
  have l2 : zb_lk t n a [115, 109, 97, 108, 108] = 0 := zb_lk0 (by rw [hc]; decide)
  have l3 : zb_lk t n a [110, 111, 116, 105, 99, 101] = 0 := zb_lk0 (by rw [hc]; decide)
  have l4 : zb_lk t n a [98, 97, 99, 107] = 0 := zb_lk0 (by rw [hc]; decide)
  have l5 : zb_lk t n a [103, 97, 105, 110] = 0 := zb_lk0 (by rw [hc]; decide)
  have l6 : zb_lk t n a [109, 105, 108, 101, 115] = 1 := zb_lk1 hc hd
  have l7 : zb_lk t n a [101, 118, 101, 110] = 0 := zb_lk0 (by rw [hc]; decide)
  have l9 : zb_lk t n a [115, 97, 109, 101] = 0 := zb_lk0 (by rw [hc]; decide)
  have l10 : zb_lk t n a [101, 120, 99, 117, 115, 101] = 0 := zb_lk0 (by rw [hc]; decide)
  have lp : 1 ≤ zb_lk t n a [109, 111, 115, 116] := zb_lkp hc
  unfold zb_wd zb_w1 zb_ws
  simp only [zb_wgo, l0, l1, l2, l3, l4, l5, l6, l7, l9, l10]
  generalize zb_lk t n a [109, 111, 115, 116] = l at lp ⊢
  simp only [List.length_cons, List.length_nil, Nat.reduceAdd, Nat.reduceEqDiff, if_false]
  split
  · simp
  · simp <;> omega
theorem zb_wd_same (hc : zb_nc t n a = zb_n 115) (hd : zb_nc t n (a + 1) = zb_n 97) : zb_wd t n a = zb_w1 t n a 9 [115, 97, 109, 101] := by
  have l0 : zb_lk t n a [103, 111, 111, 100] = 0 := zb_lk0 (by rw [hc]; decide)
  have l1 : zb_lk t n a [116, 101, 114, 109] = 0 := zb_lk0 (by rw [hc]; decide)
  have l2 : zb_lk t n a [115, 109, 97, 108, 108] = 1 := zb_lk1 hc (by rw [hd]; decide)
  have l3 : zb_lk t n a [110, 111, 116, 105, 99, 101] = 0 := zb_lk0 (by rw [hc]; decide)
  have l4 : zb_lk t n a [98, 97, 99, 107] = 0 := zb_lk0 (by rw [hc]; decide)
  have l5 : zb_lk t n a [103, 97, 105, 110] = 0 := zb_lk0 (by rw [hc]; decide)
  have l6 : zb_lk t n a [109, 105, 108, 101, 115] = 0 := zb_lk0 (by rw [hc]; decide)
  have l7 : zb_lk t n a [101, 118, 101, 110] = 0 := zb_lk0 (by rw [hc]; decide)
  have l8 : zb_lk t n a [109, 111, 115, 116] = 0 := zb_lk0 (by rw [hc]; decide)
  have l10 : zb_lk t n a [101, 120, 99, 117, 115, 101] = 0 := zb_lk0 (by rw [hc]; decide)
  have lp : 1 ≤ zb_lk t n a [115, 97, 109, 101] := zb_lkp hc
  unfold zb_wd zb_w1 zb_ws
  simp only [zb_wgo, l0, l1, l2, l3, l4, l5, l6, l7, l8, l10]
  generalize zb_lk t n a [115, 97, 109, 101] = l at lp ⊢
  simp only [List.length_cons, List.length_nil, Nat.reduceAdd, Nat.reduceEqDiff, if_false]
  split
  · simp
  · simp <;> omega
theorem zb_wd_excuse (hc : zb_nc t n a = zb_n 101) (hd : zb_nc t n (a + 1) = zb_n 120) : zb_wd t n a = zb_w1 t n a 10 [101, 120, 99, 117, 115, 101] := by
  have l0 : zb_lk t n a [103, 111, 111, 100] = 0 := zb_lk0 (by rw [hc]; decide)
  have l1 : zb_lk t n a [116, 101, 114, 109] = 0 := zb_lk0 (by rw [hc]; decide)
  have l2 : zb_lk t n a [115, 109, 97, 108, 108] = 0 := zb_lk0 (by rw [hc]; decide)
  have l3 : zb_lk t n a [110, 111, 116, 105, 99, 101] = 0 := zb_lk0 (by rw [hc]; decide)
  have l4 : zb_lk t n a [98, 97, 99, 107] = 0 := zb_lk0 (by rw [hc]; decide)
  have l5 : zb_lk t n a [103, 97, 105, 110] = 0 := zb_lk0 (by rw [hc]; decide)
  have l6 : zb_lk t n a [109, 105, 108, 101, 115] = 0 := zb_lk0 (by rw [hc]; decide)
  have l7 : zb_lk t n a [101, 118, 101, 110] = 1 := zb_lk1 hc (by rw [hd]; decide)
  have l8 : zb_lk t n a [109, 111, 115, 116] = 0 := zb_lk0 (by rw [hc]; decide)
  have l9 : zb_lk t n a [115, 97, 109, 101] = 0 := zb_lk0 (by rw [hc]; decide)
  have lp : 1 ≤ zb_lk t n a [101, 120, 99, 117, 115, 101] := zb_lkp hc
  unfold zb_wd zb_w1 zb_ws
  simp only [zb_wgo, l0, l1, l2, l3, l4, l5, l6, l7, l8, l9]
  generalize zb_lk t n a [101, 120, 99, 117, 115, 101] = l at lp ⊢
  simp only [List.length_cons, List.length_nil, Nat.reduceAdd, Nat.reduceEqDiff, if_false]
  split
  · simp
  · simp <;> omega
theorem zb_wd_none (h98 : ¬ zb_nc t n a = zb_n 98) (h101 : ¬ zb_nc t n a = zb_n 101) (h103 : ¬ zb_nc t n a = zb_n 103) (h109 : ¬ zb_nc t n a = zb_n 109) (h110 : ¬ zb_nc t n a = zb_n 110) (h115 : ¬ zb_nc t n a = zb_n 115) (h116 : ¬ zb_nc t n a = zb_n 116) : zb_wd t n a = (-1, a) := by
  have l0 : zb_lk t n a [103, 111, 111, 100] = 0 := zb_lk0 h103
  have l1 : zb_lk t n a [116, 101, 114, 109] = 0 := zb_lk0 h116
  have l2 : zb_lk t n a [115, 109, 97, 108, 108] = 0 := zb_lk0 h115
  have l3 : zb_lk t n a [110, 111, 116, 105, 99, 101] = 0 := zb_lk0 h110
  have l4 : zb_lk t n a [98, 97, 99, 107] = 0 := zb_lk0 h98
  have l5 : zb_lk t n a [103, 97, 105, 110] = 0 := zb_lk0 h103
  have l6 : zb_lk t n a [109, 105, 108, 101, 115] = 0 := zb_lk0 h109
  have l7 : zb_lk t n a [101, 118, 101, 110] = 0 := zb_lk0 h101
  have l8 : zb_lk t n a [109, 111, 115, 116] = 0 := zb_lk0 h109
  have l9 : zb_lk t n a [115, 97, 109, 101] = 0 := zb_lk0 h115
  have l10 : zb_lk t n a [101, 120, 99, 117, 115, 101] = 0 := zb_lk0 h101
  unfold zb_wd zb_ws
  simp only [zb_wgo, l0, l1, l2, l3, l4, l5, l6, l7, l8, l9, l10, List.length_cons, List.length_nil, Nat.reduceAdd, Nat.reduceEqDiff, if_false]
  simp
/-- letter j of a word's number -/
def zb_let (y : Int64) (j : Nat) : Int32 := (96 : Int32) + (((y >>> (((5 : Int32) * zb_n j).toInt64 &&& 63)) &&& (31 : Int64)).toInt32)
def zb_wc (y : Int64) : List Nat → Bool
  | [] => true
  | c :: w => decide (zb_let y w.length = zb_n c) && zb_wc y w
theorem zb_Mo_word {y : Int64} : ∀ (w : List Nat) (f a : Nat) (u : sv_S), w.length ≤ 6 → w.length < f → zb_wc y w = true → (∀ c, c ∈ w → c ≤ 127) → zb_MT t n a base u → zb_fr [187025] s u → zb_W (F_Mo_takesWord_b5 f y (zb_i ((w.length : Int) - 1)) u) (fun r => r.1 = zb_b (decide (zb_lk t n a w = w.length)) ∧ zb_MT t n (a + zb_lk t n a w) base r.2 ∧ zb_fr [187025] s r.2) := by
  intro w
  induction w with
  | nil =>
    intro f a u _ hf _ _ h hfr
    obtain ⟨f, rfl⟩ : ∃ g, f = g + 1 := ⟨f - 1, by simp at hf; omega⟩
    simp only [F_Mo_takesWord_b5]
    refine zb_Wpos (by decide) (zb_Wsome ⟨rfl, h, hfr⟩)
  | cons c w ih =>
    intro f a u h6 hf hw hc h hfr
    rw [List.length_cons] at h6 hf
    obtain ⟨f, rfl⟩ : ∃ g, f = g + 1 := ⟨f - 1, by omega⟩
    simp only [zb_wc, Bool.and_eq_true, decide_eq_true_eq] at hw
    simp only [F_Mo_takesWord_b5]
    have e0 : zb_i (((c :: w).length : Int) - 1) = zb_n w.length := by rw [zb_n_i, List.length_cons]; congr 1; omega
    rw [e0]
    refine zb_Wneg (by rw [show (0 : Int32) = zb_n 0 from rfl, zb_n_lt (by omega) (by omega)]; omega) ?_
    have e1 : (96 : Int32) + (((y >>> (((5 : Int32) * zb_n w.length).toInt64 &&& 63)) &&& (31 : Int64)).toInt32) = zb_n c := hw.1
    rw [e1, zb_Mo_takes h]
    refine zb_Wbind (zb_Wsome ?_)
    by_cases q : zb_nc t n a = zb_n c
    · have hlt := zb_nc_lt (hc c (by simp)) q
      have el : zb_lk t n a (c :: w) = zb_lk t n (a + 1) w + 1 := by simp only [zb_lk]; rw [if_pos q]
      rw [if_pos q]
      simp only [el]
      refine zb_Wneg zb_10 (zb_Wlet ?_)
      have e2 : zb_n w.length + (-1 : Int32) = zb_i ((w.length : Int) - 1) := by rw [zb_m1, zb_n_i, zb_i_add]; rfl
      rw [e2]
      refine zb_Wmono (ih f (a + 1) _ (by omega) (by omega) hw.2 (fun x hx => hc x (by simp [hx])) (zb_MT_at h (by omega)) (zb_fr_set hfr rfl)) (fun r hr => ?_)
      refine ⟨?_, ?_, hr.2.2⟩
      · rw [hr.1]; congr 1; exact decide_eq_decide.mpr (by rw [List.length_cons]; omega)
      · rw [show a + (zb_lk t n (a + 1) w + 1) = a + 1 + zb_lk t n (a + 1) w by omega]; exact hr.2.1
    · have el : zb_lk t n a (c :: w) = 0 := zb_lk0 q
      rw [if_neg q]
      simp only [el]
      refine zb_Wpos rfl (zb_Wsome ⟨?_, h, hfr⟩)
      rw [decide_eq_false (by rw [List.length_cons]; omega)]; rfl

theorem zb_Mo_w_good (h : zb_MT t n a base s) : zb_W (F_Mo_takesWord (245220 : Int64) (4 : Int32) s) (fun r => r.1 = zb_b (decide (zb_lk t n a [103, 111, 111, 100] = 4)) ∧ zb_MT t n (a + zb_lk t n a [103, 111, 111, 100]) base r.2 ∧ zb_fr [187025] s r.2) := by
  unfold F_Mo_takesWord
  refine zb_Wlet ?_
  have e : (4 : Int32) - (1 : Int32) = zb_i ((([103, 111, 111, 100] : List Nat).length : Int) - 1) := by decide +kernel
  rw [e]
  exact zb_Mo_word [103, 111, 111, 100] ss_F a s (by decide) (by decide) (by decide +kernel) (by decide) h (zb_fr_refl _ _)
theorem zb_Mo_w_term (h : zb_MT t n a base s) : zb_W (F_Mo_takesWord (661069 : Int64) (4 : Int32) s) (fun r => r.1 = zb_b (decide (zb_lk t n a [116, 101, 114, 109] = 4)) ∧ zb_MT t n (a + zb_lk t n a [116, 101, 114, 109]) base r.2 ∧ zb_fr [187025] s r.2) := by
  unfold F_Mo_takesWord
  refine zb_Wlet ?_
  have e : (4 : Int32) - (1 : Int32) = zb_i ((([116, 101, 114, 109] : List Nat).length : Int) - 1) := by decide +kernel
  rw [e]
  exact zb_Mo_word [116, 101, 114, 109] ss_F a s (by decide) (by decide) (by decide +kernel) (by decide) h (zb_fr_refl _ _)
theorem zb_Mo_w_small (h : zb_MT t n a base s) : zb_W (F_Mo_takesWord (20350348 : Int64) (5 : Int32) s) (fun r => r.1 = zb_b (decide (zb_lk t n a [115, 109, 97, 108, 108] = 5)) ∧ zb_MT t n (a + zb_lk t n a [115, 109, 97, 108, 108]) base r.2 ∧ zb_fr [187025] s r.2) := by
  unfold F_Mo_takesWord
  refine zb_Wlet ?_
  have e : (5 : Int32) - (1 : Int32) = zb_i ((([115, 109, 97, 108, 108] : List Nat).length : Int) - 1) := by decide +kernel
  rw [e]
  exact zb_Mo_word [115, 109, 97, 108, 108] ss_F a s (by decide) (by decide) (by decide +kernel) (by decide) h (zb_fr_refl _ _)
theorem zb_Mo_w_notice (h : zb_MT t n a base s) : zb_W (F_Mo_takesWord (486155365 : Int64) (6 : Int32) s) (fun r => r.1 = zb_b (decide (zb_lk t n a [110, 111, 116, 105, 99, 101] = 6)) ∧ zb_MT t n (a + zb_lk t n a [110, 111, 116, 105, 99, 101]) base r.2 ∧ zb_fr [187025] s r.2) := by
  unfold F_Mo_takesWord
  refine zb_Wlet ?_
  have e : (6 : Int32) - (1 : Int32) = zb_i ((([110, 111, 116, 105, 99, 101] : List Nat).length : Int) - 1) := by decide +kernel
  rw [e]
  exact zb_Mo_word [110, 111, 116, 105, 99, 101] ss_F a s (by decide) (by decide) (by decide +kernel) (by decide) h (zb_fr_refl _ _)
theorem zb_Mo_w_back (h : zb_MT t n a base s) : zb_W (F_Mo_takesWord (66667 : Int64) (4 : Int32) s) (fun r => r.1 = zb_b (decide (zb_lk t n a [98, 97, 99, 107] = 4)) ∧ zb_MT t n (a + zb_lk t n a [98, 97, 99, 107]) base r.2 ∧ zb_fr [187025] s r.2) := by
  unfold F_Mo_takesWord
  refine zb_Wlet ?_
  have e : (4 : Int32) - (1 : Int32) = zb_i ((([98, 97, 99, 107] : List Nat).length : Int) - 1) := by decide +kernel
  rw [e]
  exact zb_Mo_word [98, 97, 99, 107] ss_F a s (by decide) (by decide) (by decide +kernel) (by decide) h (zb_fr_refl _ _)
theorem zb_Mo_w_gain (h : zb_MT t n a base s) : zb_W (F_Mo_takesWord (230702 : Int64) (4 : Int32) s) (fun r => r.1 = zb_b (decide (zb_lk t n a [103, 97, 105, 110] = 4)) ∧ zb_MT t n (a + zb_lk t n a [103, 97, 105, 110]) base r.2 ∧ zb_fr [187025] s r.2) := by
  unfold F_Mo_takesWord
  refine zb_Wlet ?_
  have e : (4 : Int32) - (1 : Int32) = zb_i ((([103, 97, 105, 110] : List Nat).length : Int) - 1) := by decide +kernel
  rw [e]
  exact zb_Mo_word [103, 97, 105, 110] ss_F a s (by decide) (by decide) (by decide +kernel) (by decide) h (zb_fr_refl _ _)
theorem zb_Mo_w_miles (h : zb_MT t n a base s) : zb_W (F_Mo_takesWord (13938867 : Int64) (5 : Int32) s) (fun r => r.1 = zb_b (decide (zb_lk t n a [109, 105, 108, 101, 115] = 5)) ∧ zb_MT t n (a + zb_lk t n a [109, 105, 108, 101, 115]) base r.2 ∧ zb_fr [187025] s r.2) := by
  unfold F_Mo_takesWord
  refine zb_Wlet ?_
  have e : (5 : Int32) - (1 : Int32) = zb_i ((([109, 105, 108, 101, 115] : List Nat).length : Int) - 1) := by decide +kernel
  rw [e]
  exact zb_Mo_word [109, 105, 108, 101, 115] ss_F a s (by decide) (by decide) (by decide +kernel) (by decide) h (zb_fr_refl _ _)
theorem zb_Mo_w_even (h : zb_MT t n a base s) : zb_W (F_Mo_takesWord (186542 : Int64) (4 : Int32) s) (fun r => r.1 = zb_b (decide (zb_lk t n a [101, 118, 101, 110] = 4)) ∧ zb_MT t n (a + zb_lk t n a [101, 118, 101, 110]) base r.2 ∧ zb_fr [187025] s r.2) := by
  unfold F_Mo_takesWord
  refine zb_Wlet ?_
  have e : (4 : Int32) - (1 : Int32) = zb_i ((([101, 118, 101, 110] : List Nat).length : Int) - 1) := by decide +kernel
  rw [e]
  exact zb_Mo_word [101, 118, 101, 110] ss_F a s (by decide) (by decide) (by decide +kernel) (by decide) h (zb_fr_refl _ _)
theorem zb_Mo_w_most (h : zb_MT t n a base s) : zb_W (F_Mo_takesWord (441972 : Int64) (4 : Int32) s) (fun r => r.1 = zb_b (decide (zb_lk t n a [109, 111, 115, 116] = 4)) ∧ zb_MT t n (a + zb_lk t n a [109, 111, 115, 116]) base r.2 ∧ zb_fr [187025] s r.2) := by
  unfold F_Mo_takesWord
  refine zb_Wlet ?_
  have e : (4 : Int32) - (1 : Int32) = zb_i ((([109, 111, 115, 116] : List Nat).length : Int) - 1) := by decide +kernel
  rw [e]
  exact zb_Mo_word [109, 111, 115, 116] ss_F a s (by decide) (by decide) (by decide +kernel) (by decide) h (zb_fr_refl _ _)
theorem zb_Mo_w_same (h : zb_MT t n a base s) : zb_W (F_Mo_takesWord (624037 : Int64) (4 : Int32) s) (fun r => r.1 = zb_b (decide (zb_lk t n a [115, 97, 109, 101] = 4)) ∧ zb_MT t n (a + zb_lk t n a [115, 97, 109, 101]) base r.2 ∧ zb_fr [187025] s r.2) := by
  unfold F_Mo_takesWord
  refine zb_Wlet ?_
  have e : (4 : Int32) - (1 : Int32) = zb_i ((([115, 97, 109, 101] : List Nat).length : Int) - 1) := by decide +kernel
  rw [e]
  exact zb_Mo_word [115, 97, 109, 101] ss_F a s (by decide) (by decide) (by decide +kernel) (by decide) h (zb_fr_refl _ _)
theorem zb_Mo_w_excuse (h : zb_MT t n a base s) : zb_W (F_Mo_takesWord (193058405 : Int64) (6 : Int32) s) (fun r => r.1 = zb_b (decide (zb_lk t n a [101, 120, 99, 117, 115, 101] = 6)) ∧ zb_MT t n (a + zb_lk t n a [101, 120, 99, 117, 115, 101]) base r.2 ∧ zb_fr [187025] s r.2) := by
  unfold F_Mo_takesWord
  refine zb_Wlet ?_
  have e : (6 : Int32) - (1 : Int32) = zb_i ((([101, 120, 99, 117, 115, 101] : List Nat).length : Int) - 1) := by decide +kernel
  rw [e]
  exact zb_Mo_word [101, 120, 99, 117, 115, 101] ss_F a s (by decide) (by decide) (by decide +kernel) (by decide) h (zb_fr_refl _ _)
end WM
