/-! friends -/
def zb_fP (R TK : Nat → Nat → Int) (o g a b d1 d2 : Int) (t : Nat) : Bool := decide (R (TK t 0).toNat 2 = o ∧ TK t 1 = g ∧ R (TK t 0).toNat 3 = a ∧ R (TK t 0).toNat 4 = b ∧ d1 ≤ TK t 4 ∧ TK t 4 ≤ d2)
def zb_fL (P : Nat → Bool) (k : Nat) : List Nat := (List.range k).filter P
def zb_ppt (TK : Nat → Nat → Int) (t : Nat) : Int := TK t 3 / TK t 2
def zb_hiL (f : Nat → Int) (l : List Nat) : Int := l.foldl (fun a t => max a (f t)) 0
def zb_loL (f : Nat → Int) : List Nat → Int
  | [] => 0
  | t :: r => r.foldl (fun a t => min a (f t)) (f t)
def zb_mosL (g : Int) (TK : Nat → Nat → Int) (l : List Nat) : Int := l.foldl (fun a t => a + max 0 (g * TK t 2 - TK t 3)) 0
section FRL
variable {P : Nat → Bool} {k : Nat} {f : Nat → Int} {l : List Nat}
theorem zb_fL_s1 (h : P k = true) : zb_fL P (k + 1) = zb_fL P k ++ [k] := by
  unfold zb_fL
  rw [List.range_succ, List.filter_append, List.filter_cons_of_pos h]; rfl
theorem zb_fL_s0 (h : P k = false) : zb_fL P (k + 1) = zb_fL P k := by
  unfold zb_fL
  rw [List.range_succ, List.filter_append, List.filter_cons_of_neg (by rw [h]; decide)]
  exact List.append_nil _
theorem zb_fL_len : (zb_fL P k).length ≤ k := by
  have := List.length_filter_le P (List.range k)
  rw [List.length_range] at this
  exact this
theorem zb_fL_mem {t : Nat} (h : t ∈ zb_fL P k) : t < k := by
  have := (List.mem_filter.mp h).1
  exact List.mem_range.mp this
theorem zb_hiL_s {t : Nat} : zb_hiL f (l ++ [t]) = max (zb_hiL f l) (f t) := by unfold zb_hiL; rw [List.foldl_append]; rfl
theorem zb_loL_s {t : Nat} : zb_loL f (l ++ [t]) = if l = [] then f t else min (zb_loL f l) (f t) := by
  cases l with
  | nil => rfl
  | cons a r =>
    rw [if_neg (by intro h; cases h)]
    show (r ++ [t]).foldl _ _ = _
    rw [List.foldl_append]; rfl
theorem zb_mosL_s {g : Int} {TK : Nat → Nat → Int} {t : Nat} : zb_mosL g TK (l ++ [t]) = zb_mosL g TK l + max 0 (g * TK t 2 - TK t 3) := by unfold zb_mosL; rw [List.foldl_append]; rfl
theorem zb_fmax (l : List Nat) : ∀ a : Int, a ≤ l.foldl (fun a t => max a (f t)) a := by
  induction l with
  | nil => intro a; exact Int.le_refl _
  | cons t r ih => intro a; exact Int.le_trans (by omega) (ih (max a (f t)))
theorem zb_lo_eq : ∀ l : List Nat, l.foldl (fun a t => min a (f t)) (zb_hiL f l) = zb_loL f l
  | [] => rfl
  | t :: r => by
    show r.foldl (fun a t => min a (f t)) (min (zb_hiL f (t :: r)) (f t)) = r.foldl (fun a t => min a (f t)) (f t)
    have : f t ≤ zb_hiL f (t :: r) := Int.le_trans (by omega) (zb_fmax (f := f) r (max 0 (f t)))
    rw [Int.min_eq_right this]
theorem zb_hiL_rg {m : Int} (h0 : 0 ≤ m) (h : ∀ t, t ∈ l → 0 ≤ f t ∧ f t ≤ m) : 0 ≤ zb_hiL f l ∧ zb_hiL f l ≤ m := by
  have : ∀ (l : List Nat) (a : Int), (∀ t, t ∈ l → 0 ≤ f t ∧ f t ≤ m) → 0 ≤ a → a ≤ m → 0 ≤ l.foldl (fun a t => max a (f t)) a ∧ l.foldl (fun a t => max a (f t)) a ≤ m := by
    intro l
    induction l with
    | nil => intro a _ h1 h2; exact ⟨h1, h2⟩
    | cons t r ih => intro a h h1 h2; have := h t List.mem_cons_self; exact ih (max a (f t)) (fun u hu => h u (List.mem_cons_of_mem _ hu)) (by omega) (by omega)
  exact this l 0 h (by omega) h0
theorem zb_fmin_rg {m : Int} : ∀ (l : List Nat) (a : Int), (∀ t, t ∈ l → 0 ≤ f t ∧ f t ≤ m) → 0 ≤ a → a ≤ m → 0 ≤ l.foldl (fun a t => min a (f t)) a ∧ l.foldl (fun a t => min a (f t)) a ≤ m := by
  intro l
  induction l with
  | nil => intro a _ h1 h2; exact ⟨h1, h2⟩
  | cons t r ih => intro a h h1 h2; have := h t List.mem_cons_self; exact ih (min a (f t)) (fun u hu => h u (List.mem_cons_of_mem _ hu)) (by omega) (by omega)
theorem zb_take_s {j : Nat} (h : j < l.length) : l.take (j + 1) = l.take j ++ [l.getD j 0] := by
  rw [List.take_succ_eq_append_getElem h, List.getD_eq_getElem?_getD, List.getElem?_eq_getElem h]; rfl
theorem zb_getDm {j : Nat} (h : j < l.length) : l.getD j 0 ∈ l := by
  rw [List.getD_eq_getElem?_getD, List.getElem?_eq_getElem h]; exact List.getElem_mem h
end FRL
section FRD
variable {N K td Q T W Z : Nat} {A B O ZK : Nat → Nat} {M LO LD : Nat → Int} {LE : Nat → List zb_EF} {R TK WK : Nat → Nat → Int} {s : sv_S}
variable {x1 x2 x3 x4 x5 x6 x7 : Int32} {o g a b d1 d2 : Int}
theorem zb_trk (hW : zb_MW N A B M O K LO LD LE td Q R T TK W WK Z ZK) (hX : zb_MX N A B M O K LO LD LE td Q R T TK W WK Z ZK s) {t : Nat} (ht : t < T) : F_Tr_rateOfTruck (zb_n t) s = some (91 + (TK t 0).toNat) ∧ (TK t 0).toNat < Q := by
  have h80 := hW.2.2.2.1
  have hQ := hW.2.1
  obtain ⟨a1, _⟩ := hW.2.2.2.2.1 t ht
  have e0 : s.1 152 t = zb_n (TK t 0).toNat := by rw [← zb_in_n a1.1]; exact hX.2.2.2.2.2.1.2 t ht 0 (by omega)
  refine ⟨?_, by omega⟩
  unfold F_Tr_rateOfTruck
  rw [if_pos (by rw [zb_ib_n (by omega)]; omega), zb_n_ix (by omega), e0, zb_row (by omega), Option.bind_some, if_pos (zb_ok91 (by omega))]
theorem zb_mark (hW : zb_MW N A B M O K LO LD LE td Q R T TK W WK Z ZK) (hX : zb_MX N A B M O K LO LD LE td Q R T TK W WK Z ZK s) (o1 : 0 ≤ o) (o2 : o ≤ 5) (g1 : 0 ≤ g) (g2 : g ≤ 19) (a1 : 0 ≤ a) (a2 : a ≤ 15) (b1 : 0 ≤ b) (b2 : b ≤ 15) (c1 : 0 ≤ d1) (c2 : d1 ≤ 9999) (c3 : 0 ≤ d2) (c4 : d2 ≤ 9999) :
    zb_W (F_Tr_markFriends (zb_i o) (zb_i g) (zb_i a) (zb_i b) (zb_i d1) (zb_i d2) s) (fun r => r.1 = zb_n (zb_fL (zb_fP R TK o g a b d1 d2) T).length ∧ zb_fr [151009, 158] s r.2 ∧ r.2.1 151 9 = zb_n (zb_fL (zb_fP R TK o g a b d1 d2) T).length ∧ ∀ i, i < (zb_fL (zb_fP R TK o g a b d1 d2) T).length → r.2.1 158 i = zb_n ((zb_fL (zb_fP R TK o g a b d1 d2) T).getD i 0)) := by
  have h80 := hW.2.2.2.1
  have td9 := hW.1
  generalize hP : zb_fP R TK o g a b d1 d2 = P
  unfold F_Tr_markFriends
  refine zb_Wlet ?_
  refine zb_for (fun n t u => F_Tr_markFriends_b8 n (zb_i o) (zb_i g) (zb_i a) (zb_i b) (zb_i d1) (zb_i d2) (zb_n t) u) T (fun t u => zb_fr [151009, 158] s u ∧ u.1 151 9 = zb_n (zb_fL P t).length ∧ ∀ i, i < (zb_fL P t).length → u.1 158 i = zb_n ((zb_fL P t).getD i 0)) ?_ ?_ ss_F 0 _ (by omega) (by unfold ss_F; omega) ⟨zb_fr_set (zb_fr_refl _ _) rfl, zb_set_eq, fun i hi => absurd hi (by simp [zb_fL])⟩
  · intro n u hu
    simp only [F_Tr_markFriends_b8]
    rw [hu.1.1 151 10 rfl, hX.2.2.2.2.2.1.1]
    exact zb_Wpos (Int32.le_refl _) (zb_Wsome ⟨hu.2.1, hu⟩)
  · intro n t u ht hu ih
    have Xu := zb_MX_fr hW.2.1 hX hu.1 (by decide) (by decide)
    obtain ⟨e0, r0⟩ := zb_trk hW Xu ht
    have hQ := hW.2.1
    obtain ⟨k1, k2, k3, k4, k5⟩ := hW.2.2.2.2.1 t ht
    obtain ⟨m1, m2, m3, m4, _⟩ := hW.2.2.1 _ r0
    have it : sv_ib (zb_n t) 80 = true := by rw [zb_ib_n (by omega)]; omega
    have ix : (zb_n t).toNatClampNeg = t := zb_n_ix (by omega)
    have row := Xu.2.2.2.2.2.1.2 t ht
    have ln := zb_fL_len (P := P) (k := t)
    simp only [F_Tr_markFriends_b8]
    rw [hu.1.1 151 10 rfl, hX.2.2.2.2.2.1.1]
    refine zb_Wneg (by rw [zb_n_le (by omega) (by omega)]; omega) ?_
    rw [e0]
    refine zb_Wbind (zb_Wsome (zb_Wpos (zb_ok91 (by omega)) ?_))
    rw [zb_fld Xu r0 (f := 2) (by omega) (by omega), zb_fld Xu r0 (f := 3) (by omega) (by omega), zb_fld Xu r0 (f := 4) (by omega) (by omega)]
    -- not one
    have no : P t = false → zb_W (F_Tr_markFriends_b118 (F_Tr_markFriends_b8 n) (zb_i o) (zb_i g) (zb_i a) (zb_i b) (zb_i d1) (zb_i d2) (zb_n t) u) (fun r => r.1 = zb_n (zb_fL P T).length ∧ zb_fr [151009, 158] s r.2 ∧ r.2.1 151 9 = zb_n (zb_fL P T).length ∧ ∀ i, i < (zb_fL P T).length → r.2.1 158 i = zb_n ((zb_fL P T).getD i 0)) := by
      intro hp
      unfold F_Tr_markFriends_b118
      refine zb_Wlet ?_
      rw [show zb_n t + (1 : Int32) = zb_n (t + 1) from zb_n_add t 1]
      refine ih u ?_
      rw [zb_fL_s0 hp]
      exact hu
    have no2 : P t = false → zb_W (F_Tr_markFriends_b68 (F_Tr_markFriends_b8 n) (zb_i o) (zb_i g) (zb_i a) (zb_i b) (zb_i d1) (zb_i d2) (zb_n t) u) (fun r => r.1 = zb_n (zb_fL P T).length ∧ zb_fr [151009, 158] s r.2 ∧ r.2.1 151 9 = zb_n (zb_fL P T).length ∧ ∀ i, i < (zb_fL P T).length → r.2.1 158 i = zb_n ((zb_fL P T).getD i 0)) := by
      intro hp
      unfold F_Tr_markFriends_b68 F_Tr_markFriends_b69
      exact zb_Wpos rfl (no hp)
    have pf : (¬ (R (TK t 0).toNat 2 = o ∧ TK t 1 = g ∧ R (TK t 0).toNat 3 = a ∧ R (TK t 0).toNat 4 = b ∧ d1 ≤ TK t 4 ∧ TK t 4 ≤ d2)) → P t = false := fun z => by rw [← hP]; exact decide_eq_false z
    simp only [zb_i_eq (show -2147483648 ≤ R (TK t 0).toNat 2 by omega) (show R (TK t 0).toNat 2 ≤ 2147483647 by omega) (show -2147483648 ≤ o by omega) (show o ≤ 2147483647 by omega), zb_i_eq (show -2147483648 ≤ R (TK t 0).toNat 3 by omega) (show R (TK t 0).toNat 3 ≤ 2147483647 by omega) (show -2147483648 ≤ a by omega) (show a ≤ 2147483647 by omega), zb_i_eq (show -2147483648 ≤ R (TK t 0).toNat 4 by omega) (show R (TK t 0).toNat 4 ≤ 2147483647 by omega) (show -2147483648 ≤ b by omega) (show b ≤ 2147483647 by omega)]
    refine zb_Wif (fun w1 => ?_) (fun w => no2 (pf (fun z => w z.1)))
    refine zb_Wpos it ?_
    rw [ix, show u.1 153 t = zb_i (TK t 1) from row 1 (by omega)]
    simp only [zb_i_eq (show -2147483648 ≤ TK t 1 by omega) (show TK t 1 ≤ 2147483647 by omega) (show -2147483648 ≤ g by omega) (show g ≤ 2147483647 by omega)]
    refine zb_Wif (fun w2 => ?_) (fun w => no2 (pf (fun z => w z.2.1)))
    refine zb_Wif (fun w3 => ?_) (fun w => no2 (pf (fun z => w z.2.2.1)))
    refine zb_Wif (fun w4 => ?_) (fun w => no2 (pf (fun z => w z.2.2.2.1)))
    unfold F_Tr_markFriends_b69
    refine zb_Wneg (by decide) (zb_Wpos it ?_)
    rw [ix, show u.1 156 t = zb_i (TK t 4) from row 4 (by omega)]
    simp only [zb_i_lt (show -2147483648 ≤ TK t 4 by omega) (show TK t 4 ≤ 2147483647 by omega) (show -2147483648 ≤ d1 by omega) (show d1 ≤ 2147483647 by omega), zb_i_lt (show -2147483648 ≤ d2 by omega) (show d2 ≤ 2147483647 by omega) (show -2147483648 ≤ TK t 4 by omega) (show TK t 4 ≤ 2147483647 by omega)]
    refine zb_Wif (fun w => no (pf (fun z => by omega))) (fun w5 => ?_)
    refine zb_Wpos it (zb_Wif (fun w => no (pf (fun z => by omega))) (fun w6 => ?_))
    have hp : P t = true := by rw [← hP]; exact decide_eq_true ⟨w1, w2, w3, w4, by omega, by omega⟩
    refine zb_Wlet ?_
    rw [hu.2.1]
    refine zb_Wpos (by rw [zb_ib_n (by omega)]; omega) (zb_Wlet ?_)
    rw [zb_n_ix (by omega), show zb_n (zb_fL P t).length + (1 : Int32) = zb_n ((zb_fL P t).length + 1) from zb_n_add _ 1]
    unfold F_Tr_markFriends_b118
    refine zb_Wlet ?_
    rw [show zb_n t + (1 : Int32) = zb_n (t + 1) from zb_n_add t 1]
    refine ih _ ?_
    rw [zb_fL_s1 hp, List.length_append, List.length_singleton]
    refine ⟨zb_fr_set (zb_fr_set hu.1 rfl) rfl, by rw [zb_set_ne (by omega), zb_set_eq], fun i hi => ?_⟩
    by_cases e : i = (zb_fL P t).length
    · rw [e, zb_set_eq, zb_gD2]
    · rw [zb_set_ne (by omega), zb_set_ne (by omega), hu.2.2 i (by omega), zb_gD1 (by omega)]
theorem zb_ppt_rg (hW : zb_MW N A B M O K LO LD LE td Q R T TK W WK Z ZK) {t : Nat} (ht : t < T) : 0 ≤ zb_ppt TK t ∧ zb_ppt TK t ≤ 99999 := by
  obtain ⟨k1, k2, k3, k4, k5⟩ := hW.2.2.2.2.1 t ht
  unfold zb_ppt
  refine ⟨Int.ediv_nonneg k4.1 (by omega), Int.le_trans (Int.ediv_le_self _ k4.1) k4.2⟩
theorem zb_paidPerTon (hW : zb_MW N A B M O K LO LD LE td Q R T TK W WK Z ZK) (hX : zb_MX N A B M O K LO LD LE td Q R T TK W WK Z ZK s) {t : Nat} (ht : t < T) : F_Tr_paidPerTon (zb_n t) s = some (zb_i (zb_ppt TK t)) := by
  have h80 := hW.2.2.2.1
  obtain ⟨k1, k2, k3, k4, k5⟩ := hW.2.2.2.2.1 t ht
  have row := hX.2.2.2.2.2.1.2 t ht
  have it : sv_ib (zb_n t) 80 = true := by rw [zb_ib_n (by omega)]; omega
  unfold F_Tr_paidPerTon
  rw [if_pos it, if_pos it, if_pos it, zb_n_ix (by omega), show s.1 154 t = zb_i (TK t 2) from row 2 (by omega), show s.1 155 t = zb_i (TK t 3) from row 3 (by omega), if_pos (by rw [show (1 : Int32) = zb_i 1 from zb_n_i 1, zb_i_le (by omega) (by omega) (by omega) (by omega)]; omega), if_neg (by rw [show (0 : Int32) = zb_i 0 from zb_n_i 0, zb_i_eq (by omega) (by omega) (by omega) (by omega)]; omega), zb_i_div (by omega) (by omega) (by omega) (by omega), Int.tdiv_eq_ediv_of_nonneg k4.1]
  rfl
section CLS
variable {l : List Nat}
theorem zb_greatest (hW : zb_MW N A B M O K LO LD LE td Q R T TK W WK Z ZK) (hX : zb_MX N A B M O K LO LD LE td Q R T TK W WK Z ZK s) (hl : l.length ≤ 80) (hm : ∀ t, t ∈ l → t < T) (e9 : s.1 151 9 = zb_n l.length) (e8 : ∀ i, i < l.length → s.1 158 i = zb_n (l.getD i 0)) : zb_W (F_Tr_greatestPaid s) (fun r => r = zb_i (zb_hiL (zb_ppt TK) l)) := by
  have h80 := hW.2.2.2.1
  unfold F_Tr_greatestPaid
  refine zb_for0 (fun n j => F_Tr_greatestPaid_b4 s n (zb_i (zb_hiL (zb_ppt TK) (l.take j))) (zb_n j)) l.length (fun _ => True) ?_ ?_ ss_F 0 (by omega) (by unfold ss_F; omega) trivial
  · intro n _
    simp only [F_Tr_greatestPaid_b4]
    rw [e9, List.take_length]
    exact zb_Wpos (Int32.le_refl _) (zb_Wsome rfl)
  · intro n j hj _ ih
    have mem := zb_getDm hj
    have lt := hm _ mem
    have hi := zb_hiL_rg (f := zb_ppt TK) (l := l.take j) (m := 99999) (by omega) (fun t ht => zb_ppt_rg hW (hm t (List.mem_of_mem_take ht)))
    have pr := zb_ppt_rg hW lt
    simp only [F_Tr_greatestPaid_b4]
    rw [e9]
    refine zb_Wneg (by rw [zb_n_le (by omega) (by omega)]; omega) (zb_Wpos (by rw [zb_ib_n (by omega)]; omega) ?_)
    rw [zb_n_ix (by omega), e8 j hj, zb_paidPerTon hW hX lt]
    refine zb_Wbind (zb_Wsome ?_)
    rw [zb_max (by omega) (by omega) (by omega) (by omega)]
    refine zb_Wbind (zb_Wsome (zb_Wlet ?_))
    rw [show zb_n j + (1 : Int32) = zb_n (j + 1) from zb_n_add j 1]
    have := ih trivial
    rw [zb_take_s hj, zb_hiL_s] at this
    exact this
theorem zb_least (hW : zb_MW N A B M O K LO LD LE td Q R T TK W WK Z ZK) (hX : zb_MX N A B M O K LO LD LE td Q R T TK W WK Z ZK s) (hl : l.length ≤ 80) (hm : ∀ t, t ∈ l → t < T) (e9 : s.1 151 9 = zb_n l.length) (e8 : ∀ i, i < l.length → s.1 158 i = zb_n (l.getD i 0)) : zb_W (F_Tr_leastPaid s) (fun r => r = zb_i (zb_loL (zb_ppt TK) l)) := by
  have h80 := hW.2.2.2.1
  unfold F_Tr_leastPaid
  refine zb_Wbind2 (zb_greatest hW hX hl hm e9 e8) (fun h0 eh => ?_)
  subst eh
  have hr := zb_hiL_rg (f := zb_ppt TK) (l := l) (m := 99999) (by omega) (fun t ht => zb_ppt_rg hW (hm t ht))
  refine zb_for0 (fun n j => F_Tr_leastPaid_b7 s n (zb_i ((l.take j).foldl (fun a t => min a (zb_ppt TK t)) (zb_hiL (zb_ppt TK) l))) (zb_n j)) l.length (fun _ => True) ?_ ?_ ss_F 0 (by omega) (by unfold ss_F; omega) trivial
  · intro n _
    simp only [F_Tr_leastPaid_b7]
    rw [e9, List.take_length, zb_lo_eq]
    exact zb_Wpos (Int32.le_refl _) (zb_Wsome rfl)
  · intro n j hj _ ih
    have mem := zb_getDm hj
    have lt := hm _ mem
    have hi := zb_fmin_rg (f := zb_ppt TK) (m := 99999) (l.take j) (zb_hiL (zb_ppt TK) l) (fun t ht => zb_ppt_rg hW (hm t (List.mem_of_mem_take ht))) hr.1 hr.2
    have pr := zb_ppt_rg hW lt
    simp only [F_Tr_leastPaid_b7]
    rw [e9]
    refine zb_Wneg (by rw [zb_n_le (by omega) (by omega)]; omega) (zb_Wpos (by rw [zb_ib_n (by omega)]; omega) ?_)
    rw [zb_n_ix (by omega), e8 j hj, zb_paidPerTon hW hX lt]
    refine zb_Wbind (zb_Wsome ?_)
    rw [zb_min (by omega) (by omega) (by omega) (by omega)]
    refine zb_Wbind (zb_Wsome (zb_Wlet ?_))
    rw [show zb_n j + (1 : Int32) = zb_n (j + 1) from zb_n_add j 1]
    have := ih trivial
    rw [zb_take_s hj, List.foldl_append] at this
    exact this
theorem zb_rebate (hW : zb_MW N A B M O K LO LD LE td Q R T TK W WK Z ZK) (hX : zb_MX N A B M O K LO LD LE td Q R T TK W WK Z ZK s) (hl : l.length ≤ 80) (hm : ∀ t, t ∈ l → t < T) (e9 : s.1 151 9 = zb_n l.length) (e8 : ∀ i, i < l.length → s.1 158 i = zb_n (l.getD i 0)) : zb_W (F_Tr_rebate s) (fun r => r = zb_i (zb_mosL (zb_hiL (zb_ppt TK) l) TK l)) := by
  have h80 := hW.2.2.2.1
  unfold F_Tr_rebate
  refine zb_Wbind2 (zb_greatest hW hX hl hm e9 e8) (fun h0 eh => ?_)
  subst eh
  have hr := zb_hiL_rg (f := zb_ppt TK) (l := l) (m := 99999) (by omega) (fun t ht => zb_ppt_rg hW (hm t ht))
  generalize zb_hiL (zb_ppt TK) l = G at *
  refine zb_for0 (fun n j => F_Tr_rebate_b9 s n (zb_i G) (zb_i (zb_mosL G TK (l.take j))) (zb_n j)) l.length (fun _ => True) ?_ ?_ ss_F 0 (by omega) (by unfold ss_F; omega) trivial
  · intro n _
    simp only [F_Tr_rebate_b9]
    rw [e9, List.take_length]
    exact zb_Wpos (Int32.le_refl _) (zb_Wsome rfl)
  · intro n j hj _ ih
    have mem := zb_getDm hj
    have lt := hm _ mem
    obtain ⟨k1, k2, k3, k4, k5⟩ := hW.2.2.2.2.1 _ lt
    have row := hX.2.2.2.2.2.1.2 _ lt
    have pm := zb_mulr (x := 99999) (y := 99) hr.1 hr.2 (by omega : 0 ≤ TK (l.getD j 0) 2) k3.2
    have iv : sv_ib (zb_n (l.getD j 0)) 80 = true := by rw [zb_ib_n (by omega)]; omega
    simp only [F_Tr_rebate_b9]
    rw [e9]
    refine zb_Wneg (by rw [zb_n_le (by omega) (by omega)]; omega) (zb_Wpos (by rw [zb_ib_n (by omega)]; omega) (zb_Wlet ?_))
    rw [zb_n_ix (by omega), e8 j hj]
    refine zb_Wpos iv (zb_Wpos iv ?_)
    rw [zb_n_ix (by omega), show s.1 154 (l.getD j 0) = zb_i (TK (l.getD j 0) 2) from row 2 (by omega), show s.1 155 (l.getD j 0) = zb_i (TK (l.getD j 0) 3) from row 3 (by omega), zb_i_mul, zb_i_sub, show (0 : Int32) = zb_i 0 from zb_n_i 0, zb_max (by omega) (by omega) (by omega) (by omega)]
    refine zb_Wbind (zb_Wsome (zb_Wlet (zb_Wlet ?_)))
    rw [zb_i_add, show zb_n j + (1 : Int32) = zb_n (j + 1) from zb_n_add j 1]
    have := ih trivial
    rw [zb_take_s hj, zb_mosL_s] at this
    exact this
end CLS
/-- the model's -/
theorem zb_isFriend (hW : zb_MW N A B M O K LO LD LE td Q R T TK W WK Z ZK) (hM : zb_MM N A B M O K LO LD LE td Q R T TK W WK Z ZK s) (o1 : 0 ≤ o) (o2 : o ≤ 5) (g1 : 0 ≤ g) (g2 : g ≤ 19) (a1 : 0 ≤ a) (a2 : a ≤ 15) (b1 : 0 ≤ b) (b2 : b ≤ 15) (c1 : 0 ≤ d1) (c2 : d1 ≤ 9999) (c3 : 0 ≤ d2) (c4 : d2 ≤ 9999) {t : Nat} (ht : t < T) : F_Mo_isFriend (zb_n t) (zb_i o) (zb_i g) (zb_i a) (zb_i b) (zb_i d1) (zb_i d2) s = some (zb_b (zb_fP R TK o g a b d1 d2 t)) := by
  have h80 := hW.2.2.2.1
  have hQ := hW.2.1
  have td9 := hW.1
  obtain ⟨k1, k2, k3, k4, k5⟩ := hW.2.2.2.2.1 t ht
  have r0 : (TK t 0).toNat < Q := by omega
  obtain ⟨m1, m2, m3, m4, _⟩ := hW.2.2.1 _ r0
  have it : sv_ib (zb_n t) 80 = true := by rw [zb_ib_n (by omega)]; omega
  have ir : sv_ib (zb_n (TK t 0).toNat) 60 = true := by rw [zb_ib_n (by omega)]; omega
  have row := hM.2.2.2.2.1.2 t ht
  have e0 : s.1 222 t = zb_n (TK t 0).toNat := by rw [← zb_in_n k1.1]; exact row 0 (by omega)
  unfold F_Mo_isFriend zb_fP
  simp only [it, if_true, zb_n_ix (show t ≤ 2147483647 by omega), e0, ss_let, ir, zb_n_ix (show (TK t 0).toNat ≤ 2147483647 by omega), show s.1 223 t = zb_i (TK t 1) from row 1 (by omega), show s.1 226 t = zb_i (TK t 4) from row 4 (by omega), zb_fldM hM.2.2.2.1 r0 (f := 2) (c := 206) (by omega) (by omega) rfl, zb_fldM hM.2.2.2.1 r0 (f := 3) (c := 207) (by omega) (by omega) rfl, zb_fldM hM.2.2.2.1 r0 (f := 4) (c := 208) (by omega) (by omega) rfl, zb_h_inL, Option.bind_some, zb_bz, zb_ti (show -2147483648 ≤ d1 by omega) (show d1 ≤ 2147483647 by omega), zb_ti (show -2147483648 ≤ d2 by omega) (show d2 ≤ 2147483647 by omega), zb_ti (show -2147483648 ≤ TK t 4 by omega) (show TK t 4 ≤ 2147483647 by omega)]
  simp only [zb_i_eq (show -2147483648 ≤ R (TK t 0).toNat 2 by omega) (show R (TK t 0).toNat 2 ≤ 2147483647 by omega) (show -2147483648 ≤ o by omega) (show o ≤ 2147483647 by omega), zb_i_eq (show -2147483648 ≤ R (TK t 0).toNat 3 by omega) (show R (TK t 0).toNat 3 ≤ 2147483647 by omega) (show -2147483648 ≤ a by omega) (show a ≤ 2147483647 by omega), zb_i_eq (show -2147483648 ≤ R (TK t 0).toNat 4 by omega) (show R (TK t 0).toNat 4 ≤ 2147483647 by omega) (show -2147483648 ≤ b by omega) (show b ≤ 2147483647 by omega), zb_i_eq (show -2147483648 ≤ TK t 1 by omega) (show TK t 1 ≤ 2147483647 by omega) (show -2147483648 ≤ g by omega) (show g ≤ 2147483647 by omega)]
  by_cases w1 : R (TK t 0).toNat 2 = o
  rotate_left
  · rw [if_neg w1, decide_eq_false (fun z => w1 z.1)]; rfl
  rw [if_pos w1]
  by_cases w2 : TK t 1 = g
  rotate_left
  · rw [if_neg w2, decide_eq_false (fun z => w2 z.2.1)]; rfl
  rw [if_pos w2]
  by_cases w3 : R (TK t 0).toNat 3 = a
  rotate_left
  · rw [if_neg w3, decide_eq_false (fun z => w3 z.2.2.1)]; rfl
  rw [if_pos w3]
  by_cases w4 : R (TK t 0).toNat 4 = b
  rotate_left
  · rw [if_neg w4, decide_eq_false (fun z => w4 z.2.2.2.1)]; rfl
  rw [if_pos w4]
  by_cases w5 : d1 ≤ TK t 4 ∧ TK t 4 ≤ d2
  rotate_left
  · rw [if_pos w5, decide_eq_false (fun z => w5 z.2.2.2.2)]; rfl
  rw [if_neg (not_not_intro w5), decide_eq_true ⟨w1, w2, w3, w4, w5⟩]; rfl
/-- the answer -/
def zb_fav (TK : Nat → Nat → Int) (l : List Nat) (x : Int) : Int := if x = 0 then l.length else if x = 1 then zb_loL (zb_ppt TK) l else if x = 2 then zb_hiL (zb_ppt TK) l else zb_mosL (zb_hiL (zb_ppt TK) l) TK l
theorem zb_friends_M (hW : zb_MW N A B M O K LO LD LE td Q R T TK W WK Z ZK) (hM : zb_MM N A B M O K LO LD LE td Q R T TK W WK Z ZK s) (o1 : 0 ≤ o) (o2 : o ≤ 5) (g1 : 0 ≤ g) (g2 : g ≤ 19) (a1 : 0 ≤ a) (a2 : a ≤ 15) (b1 : 0 ≤ b) (b2 : b ≤ 15) (c1 : 0 ≤ d1) (c2 : d1 ≤ 9999) (c3 : 0 ≤ d2) (c4 : d2 ≤ 9999) {x : Nat} (hx : x ≤ 3) :
    zb_W (F_Mo_friends_b89 s ss_F (zb_i o) (zb_i g) (zb_i a) (zb_i b) (zb_i d1) (zb_i d2) (zb_n x) (0 : Int32) (0 : Int32) (0 : Int32) (0 : Int32) (0 : Int32)) (fun r => r = zb_i (zb_fav TK (zb_fL (zb_fP R TK o g a b d1 d2) T) x)) := by
  have h80 := hW.2.2.2.1
  have fr := fun {t : Nat} (ht : t < T) => zb_isFriend hW hM o1 o2 g1 g2 a1 a2 b1 b2 c1 c2 c3 c4 ht
  generalize zb_fP R TK o g a b d1 d2 = P at *
  have e50 := hM.2.2.2.2.1.1
  have ex : ∀ j : Nat, j ≤ 3 → (zb_n x = zb_n j) = (x = j) := fun j hj => zb_n_eq (by omega) (by omega)
  have ex0 : (zb_n x = (0 : Int32)) = (x = 0) := ex 0 (by omega)
  have ex1 : (zb_n x = (1 : Int32)) = (x = 1) := ex 1 (by omega)
  have ex2 : (zb_n x = (2 : Int32)) = (x = 2) := ex 2 (by omega)
  have hir := fun k (hk : k ≤ T) => zb_hiL_rg (f := zb_ppt TK) (l := zb_fL P k) (m := 99999) (by omega) (fun t ht => zb_ppt_rg hW (by have := zb_fL_mem ht; omega))
  -- the second walk
  have walk2 : zb_W (F_Mo_friends_b185 s ss_F (zb_i o) (zb_i g) (zb_i a) (zb_i b) (zb_i d1) (zb_i d2) (zb_n x) (zb_n (zb_fL P T).length) (zb_i (zb_loL (zb_ppt TK) (zb_fL P T))) (zb_i (zb_hiL (zb_ppt TK) (zb_fL P T))) (0 : Int32) (0 : Int32)) (fun r => r = zb_i (zb_fav TK (zb_fL P T) x)) := by
    have hr := hir T (Nat.le_refl _)
    unfold zb_fav
    generalize zb_hiL (zb_ppt TK) (zb_fL P T) = G at *
    generalize zb_loL (zb_ppt TK) (zb_fL P T) = Lw
    refine zb_for0 (fun n k => F_Mo_friends_b185 s n (zb_i o) (zb_i g) (zb_i a) (zb_i b) (zb_i d1) (zb_i d2) (zb_n x) (zb_n (zb_fL P T).length) (zb_i Lw) (zb_i G) (zb_i (zb_mosL G TK (zb_fL P k))) (zb_n k)) T (fun _ => True) ?_ ?_ ss_F 0 (by omega) (by unfold ss_F; omega) trivial
    · intro n _
      simp only [F_Mo_friends_b185]
      rw [e50]
      refine zb_Wpos (Int32.le_refl _) ?_
      simp only [ex0, ex1, ex2]
      refine zb_Wif (fun w => zb_Wsome ?_) (fun w0 => zb_Wif (fun w => zb_Wsome ?_) (fun w1 => zb_Wif (fun w => zb_Wsome ?_) (fun w2 => zb_Wsome ?_)))
      · rw [if_pos (by omega), zb_n_i]
      · rw [if_neg (by omega), if_pos (by omega)]
      · rw [if_neg (by omega), if_neg (by omega), if_pos (by omega)]
      · rw [if_neg (by omega), if_neg (by omega), if_neg (by omega)]
    · intro n k hk _ ih
      have ih := ih trivial
      obtain ⟨k1, k2, k3, k4, k5⟩ := hW.2.2.2.2.1 k hk
      have row := hM.2.2.2.2.1.2 k hk
      have pm := zb_mulr (x := 99999) (y := 99) hr.1 hr.2 (by omega : 0 ≤ TK k 2) k3.2
      have ik : sv_ib (zb_n k) 80 = true := by rw [zb_ib_n (by omega)]; omega
      simp only [F_Mo_friends_b185]
      rw [e50]
      refine zb_Wneg (by rw [zb_n_le (by omega) (by omega)]; omega) ?_
      rw [fr hk]
      refine zb_Wbind (zb_Wsome ?_)
      have go : ∀ z : Int, z = zb_mosL G TK (zb_fL P (k + 1)) → zb_W (F_Mo_friends_b255 s (F_Mo_friends_b185 s n) (zb_i o) (zb_i g) (zb_i a) (zb_i b) (zb_i d1) (zb_i d2) (zb_n x) (zb_n (zb_fL P T).length) (zb_i Lw) (zb_i G) (zb_i z) (zb_n k)) (fun r => r = zb_i (if ((x : Nat) : Int) = 0 then ((zb_fL P T).length : Int) else if ((x : Nat) : Int) = 1 then Lw else if ((x : Nat) : Int) = 2 then G else zb_mosL G TK (zb_fL P T))) := by
        intro z hz
        unfold F_Mo_friends_b255
        refine zb_Wlet ?_
        rw [show zb_n k + (1 : Int32) = zb_n (k + 1) from zb_n_add k 1, hz]
        exact ih
      cases hp : P k with
      | false => exact zb_Wpos rfl (go _ (by rw [zb_fL_s0 hp]))
      | true =>
        refine zb_Wneg (by decide) (zb_Wpos ik (zb_Wpos ik ?_))
        rw [zb_n_ix (by omega), show s.1 224 k = zb_i (TK k 2) from row 2 (by omega), show s.1 225 k = zb_i (TK k 3) from row 3 (by omega), zb_i_mul]
        simp only [zb_i_le (show -2147483648 ≤ G * TK k 2 by omega) (show G * TK k 2 ≤ 2147483647 by omega) (show -2147483648 ≤ TK k 3 by omega) (show TK k 3 ≤ 2147483647 by omega)]
        refine zb_Wif (fun w => go _ ?_) (fun w => zb_Wpos ik (zb_Wpos ik (zb_Wlet ?_)))
        · rw [zb_fL_s1 hp, zb_mosL_s, show max 0 (G * TK k 2 - TK k 3) = 0 by omega, Int.add_zero]
        · rw [zb_i_sub, zb_i_add]
          exact go _ (by rw [zb_fL_s1 hp, zb_mosL_s, show max 0 (G * TK k 2 - TK k 3) = G * TK k 2 - TK k 3 by omega])
  refine zb_for0 (fun n k => F_Mo_friends_b89 s n (zb_i o) (zb_i g) (zb_i a) (zb_i b) (zb_i d1) (zb_i d2) (zb_n x) (zb_n (zb_fL P k).length) (zb_i (zb_loL (zb_ppt TK) (zb_fL P k))) (zb_i (zb_hiL (zb_ppt TK) (zb_fL P k))) (0 : Int32) (zb_n k)) T (fun _ => True) ?_ ?_ ss_F 0 (by omega) (by unfold ss_F; omega) trivial
  · intro n _
    simp only [F_Mo_friends_b89]
    rw [e50]
    exact zb_Wpos (Int32.le_refl _) walk2
  · intro n k hk _ ih
    have ih := ih trivial
    obtain ⟨k1, k2, k3, k4, k5⟩ := hW.2.2.2.2.1 k hk
    have row := hM.2.2.2.2.1.2 k hk
    have ik : sv_ib (zb_n k) 80 = true := by rw [zb_ib_n (by omega)]; omega
    have ln := zb_fL_len (P := P) (k := k)
    have hr := hir k (by omega)
    have pr := zb_ppt_rg hW hk
    simp only [F_Mo_friends_b89]
    rw [e50]
    refine zb_Wneg (by rw [zb_n_le (by omega) (by omega)]; omega) ?_
    rw [fr hk]
    refine zb_Wbind (zb_Wsome ?_)
    cases hp : P k with
    | false =>
      refine zb_Wpos rfl ?_
      unfold F_Mo_friends_b176
      refine zb_Wlet ?_
      rw [show zb_n k + (1 : Int32) = zb_n (k + 1) from zb_n_add k 1]
      rw [zb_fL_s0 hp] at ih
      exact ih
    | true =>
      refine zb_Wneg (by decide) (zb_Wpos ik (zb_Wpos ik ?_))
      rw [zb_n_ix (by omega), show s.1 224 k = zb_i (TK k 2) from row 2 (by omega), show s.1 225 k = zb_i (TK k 3) from row 3 (by omega)]
      refine zb_Wneg (by rw [show (0 : Int32) = zb_i 0 from zb_n_i 0, zb_i_eq (by omega) (by omega) (by omega) (by omega)]; omega) ?_
      rw [zb_i_div (by omega) (by omega) (by omega) (by omega), Int.tdiv_eq_ediv_of_nonneg k4.1, show TK k 3 / TK k 2 = zb_ppt TK k from rfl]
      refine zb_Wlet ?_
      rw [zb_fL_s1 hp, zb_hiL_s, zb_loL_s, List.length_append, List.length_singleton] at ih
      have b155 : ∀ z : Int, z = (if zb_fL P k = [] then zb_ppt TK k else min (zb_loL (zb_ppt TK) (zb_fL P k)) (zb_ppt TK k)) → zb_W (F_Mo_friends_b155 s (F_Mo_friends_b89 s n) (zb_i o) (zb_i g) (zb_i a) (zb_i b) (zb_i d1) (zb_i d2) (zb_n x) (zb_n (zb_fL P k).length) (zb_i (zb_hiL (zb_ppt TK) (zb_fL P k))) (0 : Int32) (zb_n k) (zb_i (zb_ppt TK k)) (zb_i z)) (fun r => r = zb_i (zb_fav TK (zb_fL P T) x)) := by
        intro z hz
        unfold F_Mo_friends_b155 F_Mo_friends_b171 F_Mo_friends_b176
        simp only [zb_i_le (show -2147483648 ≤ zb_ppt TK k by omega) (show zb_ppt TK k ≤ 2147483647 by omega) (show -2147483648 ≤ zb_hiL (zb_ppt TK) (zb_fL P k) by omega) (show zb_hiL (zb_ppt TK) (zb_fL P k) ≤ 2147483647 by omega)]
        rw [← hz] at ih
        refine zb_Wif (fun w => zb_Wlet (zb_Wlet ?_)) (fun w => zb_Wlet (zb_Wlet ?_))
        · rw [show zb_n k + (1 : Int32) = zb_n (k + 1) from zb_n_add k 1, show zb_n (zb_fL P k).length + (1 : Int32) = zb_n ((zb_fL P k).length + 1) from zb_n_add _ 1]
          rw [Int.max_eq_left w] at ih
          exact ih
        · rw [show zb_n k + (1 : Int32) = zb_n (k + 1) from zb_n_add k 1, show zb_n (zb_fL P k).length + (1 : Int32) = zb_n ((zb_fL P k).length + 1) from zb_n_add _ 1]
          rw [Int.max_eq_right (by omega)] at ih
          exact ih
      by_cases w0 : (zb_fL P k).length = 0
      · have e : zb_fL P k = [] := List.eq_nil_of_length_eq_zero w0
        refine zb_Wpos (by rw [w0]; rfl) ?_
        unfold F_Mo_friends_b148
        exact b155 _ (by rw [if_pos e])
      · have e : zb_fL P k ≠ [] := fun z => w0 (by rw [z]; rfl)
        refine zb_Wneg (by rw [show (0 : Int32) = zb_n 0 from rfl, zb_n_eq (by omega) (by omega)]; exact w0) ?_
        have lr : 0 ≤ zb_loL (zb_ppt TK) (zb_fL P k) ∧ zb_loL (zb_ppt TK) (zb_fL P k) ≤ 99999 := by
          rw [← zb_lo_eq]
          exact zb_fmin_rg (f := zb_ppt TK) (m := 99999) _ _ (fun t ht => zb_ppt_rg hW (by have := zb_fL_mem ht; omega)) hr.1 hr.2
        simp only [zb_i_le (show -2147483648 ≤ zb_loL (zb_ppt TK) (zb_fL P k) by omega) (show zb_loL (zb_ppt TK) (zb_fL P k) ≤ 2147483647 by omega) (show -2147483648 ≤ zb_ppt TK k by omega) (show zb_ppt TK k ≤ 2147483647 by omega)]
        refine zb_Wif (fun w => b155 _ ?_) (fun w => ?_)
        · rw [if_neg e, Int.min_eq_left w]
        · unfold F_Mo_friends_b148
          exact b155 _ (by rw [if_neg e, Int.min_eq_right (by omega)])
theorem zb_c_friends (h : zb_J s) : zb_m10 (F_X_friends x1 x2 x3 x4 x5 x6 x7 s) (F_Mo_friends x1 x2 x3 x4 x5 x6 x7) s := by
  obtain ⟨N, A, B, M, O, K, LO, LD, LE, td, Q, R, T, TK, W, WK, Z, ZK, h⟩ := h
  have hj := zb_J_of h
  have kr := zb_keep_refl s
  obtain ⟨hW, hM, hX, hO, hB⟩ := id h
  have z1 : (x7 < (0 : Int32)) = (x7.toInt < 0) := by rw [show (0 : Int32) = zb_n 0 from rfl]; exact zb_c_ltn (by omega)
  have z2 : (x7 ≤ (3 : Int32)) = (x7.toInt ≤ 3) := by rw [show (3 : Int32) = zb_n 3 from rfl]; exact zb_c_len (by omega)
  have z3 : (x5 ≤ x6) = (x5.toInt ≤ x6.toInt) := by rw [Int32.le_iff_toInt_le]
  have t0 : (0 : Int32).toInt = 0 := by decide
  have t3 : (3 : Int32).toInt = 3 := by decide
  have no : ∀ v : Int32, F_X_friends x1 x2 x3 x4 x5 x6 x7 s = some (v, s) → F_Mo_friends x1 x2 x3 x4 x5 x6 x7 s = some v → zb_m10 (F_X_friends x1 x2 x3 x4 x5 x6 x7 s) (F_Mo_friends x1 x2 x3 x4 x5 x6 x7) s := by
    intro v p q
    unfold zb_m10
    rw [p]
    refine zb_Wsome ⟨kr, ?_⟩
    dsimp only
    rw [q]
    exact zb_Wsome ⟨rfl, hj⟩
  have xg : F_X_friends x1 x2 x3 x4 x5 x6 x7 s = if ¬ (0 ≤ x1.toInt ∧ x1.toInt ≤ 5) then some ((-1 : Int32), s) else if ¬ (0 ≤ x2.toInt ∧ x2.toInt ≤ 19) then some ((-1 : Int32), s) else if ¬ ((0 ≤ x3.toInt ∧ x3.toInt ≤ 15) ∧ (0 ≤ x4.toInt ∧ x4.toInt ≤ 15)) then some ((-1 : Int32), s) else if x7.toInt < 0 then some ((-1 : Int32), s) else if x7.toInt ≤ 3 then (if ¬ (0 ≤ x5.toInt ∧ x5.toInt ≤ 9999) then some ((-2 : Int32), s) else if ¬ (0 ≤ x6.toInt ∧ x6.toInt ≤ 9999) then some ((-2 : Int32), s) else if x5.toInt ≤ x6.toInt then (F_Tr_markFriends x1 x2 x3 x4 x5 x6 s).bind fun r6 =>
      if x7 = (0 : Int32) then
        some (r6.1, r6.2)
      else if x7 = (1 : Int32) then
        (F_Tr_leastPaid r6.2).bind fun r8 =>
        some (r8, r6.2)
      else if x7 = (2 : Int32) then
        (F_Tr_greatestPaid r6.2).bind fun r10 =>
        some (r10, r6.2)
      else 
      (F_Tr_rebate r6.2).bind fun r12 =>
      some (r12, r6.2) else some ((-2 : Int32), s)) else some ((-1 : Int32), s) := by
    simp only [F_X_friends, z1, z2, z3, zb_g_owner, zb_g_good, zb_g_stations, zb_g_day, Option.bind_some, zb_bz]
  have mg : ∀ u, F_Mo_friends x1 x2 x3 x4 x5 x6 x7 u = if ¬ (0 ≤ x1.toInt ∧ x1.toInt ≤ 5) then some (-1 : Int32) else if ¬ (0 ≤ x2.toInt ∧ x2.toInt ≤ 19) then some (-1 : Int32) else if ¬ (0 ≤ x3.toInt ∧ x3.toInt ≤ 15) then some (-1 : Int32) else if ¬ (0 ≤ x4.toInt ∧ x4.toInt ≤ 15) then some (-1 : Int32) else if ¬ (0 ≤ x7.toInt ∧ x7.toInt ≤ 3) then some (-1 : Int32) else if ¬ (0 ≤ x5.toInt ∧ x5.toInt ≤ 9999) then some (-2 : Int32) else if ¬ (0 ≤ x6.toInt ∧ x6.toInt ≤ 9999) then some (-2 : Int32) else if x5.toInt ≤ x6.toInt then F_Mo_friends_b89 u ss_F x1 x2 x3 x4 x5 x6 x7 (0 : Int32) (0 : Int32) (0 : Int32) (0 : Int32) (0 : Int32) else some (-2 : Int32) := by
    intro u
    simp only [F_Mo_friends, z3, zb_h_owner, zb_h_good, zb_h_station, zb_h_day, zb_h_inL, t0, t3, Option.bind_some, zb_bz]
  by_cases q1 : 0 ≤ x1.toInt ∧ x1.toInt ≤ 5
  rotate_left
  · exact no _ (by rw [xg, if_pos q1]) (by rw [mg, if_pos q1])
  rw [if_neg (not_not_intro q1)] at xg
  simp only [if_neg (not_not_intro q1)] at mg
  by_cases q2 : 0 ≤ x2.toInt ∧ x2.toInt ≤ 19
  rotate_left
  · exact no _ (by rw [xg, if_pos q2]) (by rw [mg, if_pos q2])
  rw [if_neg (not_not_intro q2)] at xg
  simp only [if_neg (not_not_intro q2)] at mg
  by_cases q3 : 0 ≤ x3.toInt ∧ x3.toInt ≤ 15
  rotate_left
  · exact no _ (by rw [xg, if_pos (fun z => q3 z.1)]) (by rw [mg, if_pos q3])
  simp only [if_neg (not_not_intro q3)] at mg
  by_cases q4 : 0 ≤ x4.toInt ∧ x4.toInt ≤ 15
  rotate_left
  · exact no _ (by rw [xg, if_pos (fun z => q4 z.2)]) (by rw [mg, if_pos q4])
  rw [if_neg (not_not_intro ⟨q3, q4⟩)] at xg
  simp only [if_neg (not_not_intro q4)] at mg
  by_cases q7 : 0 ≤ x7.toInt ∧ x7.toInt ≤ 3
  rotate_left
  · refine no (-1 : Int32) ?_ (by rw [mg, if_pos q7])
    rw [xg]
    by_cases w : x7.toInt < 0
    · rw [if_pos w]
    · rw [if_neg w, if_neg (by omega)]
  rw [if_neg (by omega), if_pos q7.2] at xg
  simp only [if_neg (not_not_intro q7)] at mg
  by_cases q5 : 0 ≤ x5.toInt ∧ x5.toInt ≤ 9999
  rotate_left
  · exact no _ (by rw [xg, if_pos q5]) (by rw [mg, if_pos q5])
  rw [if_neg (not_not_intro q5)] at xg
  simp only [if_neg (not_not_intro q5)] at mg
  by_cases q6 : 0 ≤ x6.toInt ∧ x6.toInt ≤ 9999
  rotate_left
  · exact no _ (by rw [xg, if_pos q6]) (by rw [mg, if_pos q6])
  rw [if_neg (not_not_intro q6)] at xg
  simp only [if_neg (not_not_intro q6)] at mg
  by_cases q8 : x5.toInt ≤ x6.toInt
  rotate_left
  · exact no _ (by rw [xg, if_neg q8]) (by rw [mg, if_neg q8])
  rw [if_pos q8] at xg
  simp only [if_pos q8] at mg
  obtain ⟨o, o1, o2, rfl⟩ := zb_ai q1
  obtain ⟨g, g1, g2, rfl⟩ := zb_ai q2
  obtain ⟨a, a1, a2, rfl⟩ := zb_ai q3
  obtain ⟨b, b1, b2, rfl⟩ := zb_ai q4
  obtain ⟨d1, c1, c2, rfl⟩ := zb_ai q5
  obtain ⟨d2, c3, c4, rfl⟩ := zb_ai q6
  obtain ⟨x, hx, rfl⟩ := zb_an2 q7
  have hx3 : x ≤ 3 := by omega
  have h80 := hW.2.2.2.1
  unfold zb_m10
  rw [xg]
  refine zb_Wbind2 (zb_mark hW hX o1 o2 g1 g2 a1 a2 b1 b2 c1 c2 c3 c4) (fun r hr => ?_)
  obtain ⟨r1, r2, r3, r4⟩ := hr
  have Xr := zb_MX_fr hW.2.1 hX r2 (by decide) (by decide)
  have Jr := zb_J_X h Xr (zb_fr_fx r2) (by decide)
  have ln := zb_fL_len (P := zb_fP R TK o g a b d1 d2) (k := T)
  have mm := fun t (ht : t ∈ zb_fL (zb_fP R TK o g a b d1 d2) T) => zb_fL_mem ht
  have md := zb_friends_M hW Jr.2.1 o1 o2 g1 g2 a1 a2 b1 b2 c1 c2 c3 c4 hx3
  have fin : ∀ v : Int32, v = zb_i (zb_fav TK (zb_fL (zb_fP R TK o g a b d1 d2) T) x) → zb_W (some (v, r.2)) (fun r => zb_keep s r.2 ∧ zb_W (F_Mo_friends (zb_i o) (zb_i g) (zb_i a) (zb_i b) (zb_i d1) (zb_i d2) (zb_n x) r.2) (fun q => q = r.1 ∧ zb_J r.2)) := by
    intro v hv
    refine zb_Wsome ⟨zb_keep_fr r2 rfl, ?_⟩
    dsimp only
    rw [mg]
    exact zb_Wmono md (fun q hq => ⟨hq.trans hv.symm, zb_J_of Jr⟩)
  have ex : ∀ j : Nat, j ≤ 3 → (zb_n x = zb_n j) = (x = j) := fun j hj => zb_n_eq (by omega) (by omega)
  have ex0 : (zb_n x = (0 : Int32)) = (x = 0) := ex 0 (by omega)
  have ex1 : (zb_n x = (1 : Int32)) = (x = 1) := ex 1 (by omega)
  have ex2 : (zb_n x = (2 : Int32)) = (x = 2) := ex 2 (by omega)
  simp only [ex0, ex1, ex2]
  unfold zb_fav at fin
  refine zb_Wif (fun w => fin _ ?_) (fun w0 => zb_Wif (fun w => ?_) (fun w1 => zb_Wif (fun w => ?_) (fun w2 => ?_)))
  · rw [if_pos (by omega), r1, zb_n_i]
  · refine zb_Wbind2 (zb_least hW Xr (by omega) mm r3 r4) (fun q hq => fin _ ?_)
    rw [if_neg (by omega), if_pos (by omega)]; exact hq
  · refine zb_Wbind2 (zb_greatest hW Xr (by omega) mm r3 r4) (fun q hq => fin _ ?_)
    rw [if_neg (by omega), if_neg (by omega), if_pos (by omega)]; exact hq
  · refine zb_Wbind2 (zb_rebate hW Xr (by omega) mm r3 r4) (fun q hq => fin _ ?_)
    rw [if_neg (by omega), if_neg (by omega), if_neg (by omega)]; exact hq
end FRD
