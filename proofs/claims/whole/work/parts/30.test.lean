/-! tests -/
theorem tt1 (x y : Int32) (h : 0 ≤ x) (h2 : x < 16) : ¬ (x < 0) := by grind
theorem tt2 (x : Int32) (h : 0 ≤ x) (h2 : x < 16) : ¬ (x + 3 < 3) := by grind
theorem tt3 (x y : Int32) (h : 0 ≤ x) (h2 : x < 16) (h3 : 0 ≤ y) (h4 : y < 16) : ¬ (x * 16 + y < 0) := by grind
theorem tt4 (x y : Int32) (h : 0 ≤ x) (h2 : x < 16) (h3 : 0 ≤ y) (h4 : y < 16) : sv_ib (x * 16 + y) 256 = true := by
  simp only [sv_ib, decide_eq_true_eq]
  grind
theorem tt5 (x y : Int32) (h : 0 ≤ x) (h2 : x < 16) (h3 : 0 ≤ y) (h4 : y < 16) : ¬ (x * 16 + y < 0) := by
  simp only [Int32.lt_iff_toInt_lt, Int32.le_iff_toInt_le, Int32.toInt_add, Int32.toInt_mul, Int32.reduceToInt, Int.bmod_def] at *
  omega
theorem tt6 (x y : Int32) (h : 0 ≤ x) (h2 : x < 16) (h3 : 0 ≤ y) (h4 : y < 16) : x.toInt + y.toInt = (x + y).toInt := by grind
theorem tt7 (x : Int32) (h : 0 ≤ x) (h2 : x < 16) : x.toNatClampNeg < 16 := by grind
theorem tt8 (x : Int32) (h : 0 ≤ x) : (x.toNatClampNeg : Int) = x.toInt := by grind
theorem tt9 (x y : Int32) (h : 0 ≤ x) (h1 : 0 ≤ y) (h2 : x.toNatClampNeg = y.toNatClampNeg) : x = y := by grind
theorem tt10 (a b : Int) (h : 0 ≤ a) (h2 : a < 16) (h3 : 0 ≤ b) (h4 : b < 16) : Int32.ofInt a < Int32.ofInt b ↔ a < b := by grind
theorem tt11 (a b : Nat) (h2 : a < 16) (h4 : b < 16) : Int32.ofNat a < Int32.ofNat b ↔ a < b := by grind
theorem tt12 (x y z : Int32) (h : x = y) (h2 : ¬ (y < 5)) : (if x < 5 then 3 else z) = z := by grind
theorem tt13 (a : Nat) (h2 : a < 16) : (Int32.ofNat a * 16 + 3).toNatClampNeg = 16 * a + 3 := by grind
theorem tt14 (a : Nat) (h2 : a < 16) : (Int32.ofNat a * 16 + 3).toNatClampNeg = 16 * a + 3 := by
  simp
  omega
