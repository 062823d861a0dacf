/-! a row of five at the end -/
def zb_put5 (c0 k0 c n : Nat) (x1 x2 x3 x4 x5 : Int32) (s : sv_S) : sv_S := ss_setI (ss_setI (ss_setI (ss_setI (ss_setI (ss_setI s c n x1) (c + 1) n x2) (c + 2) n x3) (c + 3) n x4) (c + 4) n x5) c0 k0 (zb_n (n + 1))
section P5
variable {s : sv_S} {x1 x2 x3 x4 x5 : Int32} {n : Nat}
theorem zb_put5_row {c0 k0 c T : Nat} {TK : Nat → Nat → Int} {v : Nat → Int} (h : zb_row5 c0 c k0 T TK s) (hc : c0 < c ∨ c + 4 < c0) (h1 : x1 = zb_i (v 0)) (h2 : x2 = zb_i (v 1)) (h3 : x3 = zb_i (v 2)) (h4 : x4 = zb_i (v 3)) (h5 : x5 = zb_i (v 4)) : zb_row5 c0 c k0 (T + 1) (fun t => if t = T then v else TK t) (zb_put5 c0 k0 c T x1 x2 x3 x4 x5 s) := by
  refine ⟨zb_set_eq, fun t ht f hf => ?_⟩
  unfold zb_put5
  rw [zb_set_ne (by omega)]
  dsimp only
  by_cases q : t = T
  · rw [if_pos q, q]
    have : f = 0 ∨ f = 1 ∨ f = 2 ∨ f = 3 ∨ f = 4 := by omega
    rcases this with rfl | rfl | rfl | rfl | rfl
    · rw [zb_set_ne (by omega), zb_set_ne (by omega), zb_set_ne (by omega), zb_set_ne (by omega), Nat.add_zero, zb_set_eq, h1]
    · rw [zb_set_ne (by omega), zb_set_ne (by omega), zb_set_ne (by omega), zb_set_eq, h2]
    · rw [zb_set_ne (by omega), zb_set_ne (by omega), zb_set_eq, h3]
    · rw [zb_set_ne (by omega), zb_set_eq, h4]
    · rw [zb_set_eq, h5]
  · rw [if_neg q, zb_set_ne (by omega), zb_set_ne (by omega), zb_set_ne (by omega), zb_set_ne (by omega), zb_set_ne (by omega)]
    exact h.2 t (by omega) f hf
theorem zb_Wa_add (e : s.1 163 13 = zb_n n) (hn : n < 20) : F_Wa_add x1 x2 x3 x4 x5 s = some (zb_n n, zb_put5 163 13 164 n x1 x2 x3 x4 x5 s) := by
  have i : sv_ib (zb_n n) 20 = true := by rw [zb_ib_n (by omega)]; exact hn
  have x : (zb_n n).toNatClampNeg = n := zb_n_ix (by omega)
  have e1 : (ss_setI s 164 n x1).1 163 13 = zb_n n := (zb_set_ne (by omega)).trans e
  have e2 : (ss_setI (ss_setI s 164 n x1) 165 n x2).1 163 13 = zb_n n := (zb_set_ne (by omega)).trans e1
  have e3 : (ss_setI (ss_setI (ss_setI s 164 n x1) 165 n x2) 166 n x3).1 163 13 = zb_n n := (zb_set_ne (by omega)).trans e2
  have e4 : (ss_setI (ss_setI (ss_setI (ss_setI s 164 n x1) 165 n x2) 166 n x3) 167 n x4).1 163 13 = zb_n n := (zb_set_ne (by omega)).trans e3
  have e5 : (ss_setI (ss_setI (ss_setI (ss_setI (ss_setI s 164 n x1) 165 n x2) 166 n x3) 167 n x4) 168 n x5).1 163 13 = zb_n n := (zb_set_ne (by omega)).trans e4
  have p : zb_n n + (1 : Int32) = zb_n (n + 1) := zb_n_add n 1
  unfold F_Wa_add
  simp only [ss_let, e, i, x, if_true, e1, e2, e3, e4, e5, p]
  rfl
theorem zb_Tr_add (e : s.1 151 10 = zb_n n) (hn : n < 80) : F_Tr_add x1 x2 x3 x4 x5 s = some (zb_n n, zb_put5 151 10 152 n x1 x2 x3 x4 x5 s) := by
  have i : sv_ib (zb_n n) 80 = true := by rw [zb_ib_n (by omega)]; exact hn
  have x : (zb_n n).toNatClampNeg = n := zb_n_ix (by omega)
  have e1 : (ss_setI s 152 n x1).1 151 10 = zb_n n := (zb_set_ne (by omega)).trans e
  have e2 : (ss_setI (ss_setI s 152 n x1) 153 n x2).1 151 10 = zb_n n := (zb_set_ne (by omega)).trans e1
  have e3 : (ss_setI (ss_setI (ss_setI s 152 n x1) 153 n x2) 154 n x3).1 151 10 = zb_n n := (zb_set_ne (by omega)).trans e2
  have e4 : (ss_setI (ss_setI (ss_setI (ss_setI s 152 n x1) 153 n x2) 154 n x3) 155 n x4).1 151 10 = zb_n n := (zb_set_ne (by omega)).trans e3
  have e5 : (ss_setI (ss_setI (ss_setI (ss_setI (ss_setI s 152 n x1) 153 n x2) 154 n x3) 155 n x4) 156 n x5).1 151 10 = zb_n n := (zb_set_ne (by omega)).trans e4
  have p : zb_n n + (1 : Int32) = zb_n (n + 1) := zb_n_add n 1
  unfold F_Tr_add
  simp only [ss_let, e, i, x, if_true, e1, e2, e3, e4, e5, p]
  rfl
theorem zb_Mo_want5 (e : s.1 187 63 = zb_n n) (hn : n < 20) : (if sv_ib (s.1 187 63) 20 = true then
    ss_let (ss_setI s 230 (s.1 187 63).toNatClampNeg x1) fun s6 =>
    if sv_ib (s6.1 187 63) 20 = true then
      ss_let (ss_setI s6 231 (s6.1 187 63).toNatClampNeg x2) fun s7 =>
      if sv_ib (s7.1 187 63) 20 = true then
        ss_let (ss_setI s7 232 (s7.1 187 63).toNatClampNeg x3) fun s8 =>
        if sv_ib (s8.1 187 63) 20 = true then
          ss_let (ss_setI s8 233 (s8.1 187 63).toNatClampNeg x4) fun s9 =>
          if sv_ib (s9.1 187 63) 20 = true then
            ss_let (ss_setI s9 234 (s9.1 187 63).toNatClampNeg x5) fun s10 =>
            ss_let (ss_setI s10 187 63 ((s10.1 187 63) + (1 : Int32))) fun s11 =>
            some ((s11.1 187 63) - (1 : Int32), s11)
          else none
        else none
      else none
    else none
  else none) = some (zb_n n, zb_put5 187 63 230 n x1 x2 x3 x4 x5 s) := by
  have i : sv_ib (zb_n n) 20 = true := by rw [zb_ib_n (by omega)]; exact hn
  have x : (zb_n n).toNatClampNeg = n := zb_n_ix (by omega)
  have e1 : (ss_setI s 230 n x1).1 187 63 = zb_n n := (zb_set_ne (by omega)).trans e
  have e2 : (ss_setI (ss_setI s 230 n x1) 231 n x2).1 187 63 = zb_n n := (zb_set_ne (by omega)).trans e1
  have e3 : (ss_setI (ss_setI (ss_setI s 230 n x1) 231 n x2) 232 n x3).1 187 63 = zb_n n := (zb_set_ne (by omega)).trans e2
  have e4 : (ss_setI (ss_setI (ss_setI (ss_setI s 230 n x1) 231 n x2) 232 n x3) 233 n x4).1 187 63 = zb_n n := (zb_set_ne (by omega)).trans e3
  have e5 : (ss_setI (ss_setI (ss_setI (ss_setI (ss_setI s 230 n x1) 231 n x2) 232 n x3) 233 n x4) 234 n x5).1 187 63 = zb_n n := (zb_set_ne (by omega)).trans e4
  have p : zb_n n + (1 : Int32) = zb_n (n + 1) := zb_n_add n 1
  have e6 : (ss_setI (ss_setI (ss_setI (ss_setI (ss_setI (ss_setI s 230 n x1) 231 n x2) 232 n x3) 233 n x4) 234 n x5) 187 63 (zb_n (n + 1))).1 187 63 = zb_n (n + 1) := zb_set_eq
  simp only [ss_let, e, i, x, if_true, e1, e2, e3, e4, e5, p, e6, zb_sub1]
  rfl
theorem zb_Mo_truck5 (e : s.1 187 50 = zb_n n) (hn : n < 80) : (if sv_ib (s.1 187 50) 80 = true then
    ss_let (ss_setI s 222 (s.1 187 50).toNatClampNeg x1) fun s6 =>
    if sv_ib (s6.1 187 50) 80 = true then
      ss_let (ss_setI s6 223 (s6.1 187 50).toNatClampNeg x2) fun s7 =>
      if sv_ib (s7.1 187 50) 80 = true then
        ss_let (ss_setI s7 224 (s7.1 187 50).toNatClampNeg x3) fun s8 =>
        if sv_ib (s8.1 187 50) 80 = true then
          ss_let (ss_setI s8 225 (s8.1 187 50).toNatClampNeg x4) fun s9 =>
          if sv_ib (s9.1 187 50) 80 = true then
            ss_let (ss_setI s9 226 (s9.1 187 50).toNatClampNeg x5) fun s10 =>
            ss_let (ss_setI s10 187 50 ((s10.1 187 50) + (1 : Int32))) fun s11 =>
            some ((s11.1 187 50) - (1 : Int32), s11)
          else none
        else none
      else none
    else none
  else none) = some (zb_n n, zb_put5 187 50 222 n x1 x2 x3 x4 x5 s) := by
  have i : sv_ib (zb_n n) 80 = true := by rw [zb_ib_n (by omega)]; exact hn
  have x : (zb_n n).toNatClampNeg = n := zb_n_ix (by omega)
  have e1 : (ss_setI s 222 n x1).1 187 50 = zb_n n := (zb_set_ne (by omega)).trans e
  have e2 : (ss_setI (ss_setI s 222 n x1) 223 n x2).1 187 50 = zb_n n := (zb_set_ne (by omega)).trans e1
  have e3 : (ss_setI (ss_setI (ss_setI s 222 n x1) 223 n x2) 224 n x3).1 187 50 = zb_n n := (zb_set_ne (by omega)).trans e2
  have e4 : (ss_setI (ss_setI (ss_setI (ss_setI s 222 n x1) 223 n x2) 224 n x3) 225 n x4).1 187 50 = zb_n n := (zb_set_ne (by omega)).trans e3
  have e5 : (ss_setI (ss_setI (ss_setI (ss_setI (ss_setI s 222 n x1) 223 n x2) 224 n x3) 225 n x4) 226 n x5).1 187 50 = zb_n n := (zb_set_ne (by omega)).trans e4
  have p : zb_n n + (1 : Int32) = zb_n (n + 1) := zb_n_add n 1
  have e6 : (ss_setI (ss_setI (ss_setI (ss_setI (ss_setI (ss_setI s 222 n x1) 223 n x2) 224 n x3) 225 n x4) 226 n x5) 187 50 (zb_n (n + 1))).1 187 50 = zb_n (n + 1) := zb_set_eq
  simp only [ss_let, e, i, x, if_true, e1, e2, e3, e4, e5, p, e6, zb_sub1]
  rfl
end P5
