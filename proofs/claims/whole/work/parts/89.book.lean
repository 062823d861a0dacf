/-! book -/
theorem zb_cmpn {x y : Int64} : (lg_cmp x y < (0 : Int32)) = (x < y) := by
  unfold lg_cmp
  by_cases q : x > y
  · rw [if_pos q]
    refine (eq_false (by decide)).trans (eq_false ?_).symm
    rw [Int64.lt_iff_toInt_lt]
    have := Int64.lt_iff_toInt_lt.mp q
    omega
  · rw [if_neg q]
    by_cases e : x = y
    · rw [if_pos e]
      refine (eq_false (by decide)).trans (eq_false ?_).symm
      rw [Int64.lt_iff_toInt_lt, e]; omega
    · rw [if_neg e]
      refine (eq_true (by decide)).trans (eq_true ?_).symm
      have h1 : ¬ y.toInt < x.toInt := fun z => q (Int64.lt_iff_toInt_lt.mpr z)
      have h2 : x.toInt ≠ y.toInt := fun z => e (Int64.toInt_inj.mp z)
      rw [Int64.lt_iff_toInt_lt]; omega
theorem zb_cmpe {x y : Int64} : (lg_cmp x y ≤ (0 : Int32)) = ¬ (y < x) := by
  rw [← zb_cmp]
  exact propext Int32.not_lt.symm
theorem zb_l32 (z : Int) : (zb_l z).toInt32 = zb_i z := Int64.toInt32_ofInt
def zb_bx (c : Nat → Int64) (i k f : Nat) : Int32 := (c (i + 5 * k + f)).toInt32
def zb_bkr (Q td n : Nat) (c : Nat → Int64) (i : Int) (T0 k : Nat) : Nat := if ¬ (0 ≤ i ∧ i + 5 * k + 5 ≤ n) then 1 else if ¬ zb_trf Q td (zb_bx c i.toNat k 0) (zb_bx c i.toNat k 1) (zb_bx c i.toNat k 2) (zb_bx c i.toNat k 3) (zb_bx c i.toNat k 4) = 0 then 2 else if ¬ T0 + k < 80 then 3 else 0
def zb_bkT (TK : Nat → Nat → Int) (T0 : Nat) (c : Nat → Int64) (i : Nat) : Nat → Nat → Nat → Int
  | 0 => TK
  | k + 1 => fun t => if t = T0 + k then (fun f => if f = 0 then (zb_bx c i k 0).toInt else if f = 1 then (zb_bx c i k 1).toInt else if f = 2 then (zb_bx c i k 2).toInt else if f = 3 then (zb_bx c i k 3).toInt else (zb_bx c i k 4).toInt) else zb_bkT TK T0 c i k t
def zb_bkf (f : Nat → Nat) : Nat → Nat → Nat × Nat
  | 0, k => (k, 0)
  | m + 1, k => if f k = 0 then zb_bkf f m (k + 1) else (k, f k)
theorem zb_bkf_le {f : Nat → Nat} (hf : ∀ k, f k ≤ 3) : ∀ m k, (zb_bkf f m k).2 ≤ 3
  | 0, _ => Nat.zero_le _
  | m + 1, k => by
    unfold zb_bkf
    split
    · exact zb_bkf_le hf m (k + 1)
    · exact hf k
theorem zb_bkr_le {Q td n : Nat} {c : Nat → Int64} {i : Int} {T0 : Nat} (k : Nat) : zb_bkr Q td n c i T0 k ≤ 3 := by
  unfold zb_bkr
  split
  · omega
  split
  · omega
  split <;> omega
section BOK
variable {N K td Q T W Z : Nat} {A B O ZK : Nat → Nat} {M LO LD : Nat → Int} {LE : Nat → List zb_EF} {R TK WK : Nat → Nat → Int} {s : sv_S}
variable {x1 x2 x3 x4 x5 : Int32} {c : Nat → Int64} {i : Int} {t n T0 k : Nat}
theorem zb_bookRow (hW : zb_MW N A B M O K LO LD LE td Q R (T0 + k) (zb_bkT TK T0 c i.toNat k) W WK Z ZK) (hX : zb_MX N A B M O K LO LD LE td Q R (T0 + k) (zb_bkT TK T0 c i.toNat k) W WK Z ZK s) (ht : t < 6) (hn : n ≤ 80) (e179 : s.1 179 t = zb_n n) (hc : ∀ p, p < 80 → s.2.1 (181 + t) p = c p) (i1 : -2147483648 ≤ i) (i2 : i ≤ 2147483647) (hk : k ≤ 16) (hi : 0 < k → 0 ≤ i) :
    zb_W (F_X_bookRow (zb_n t) (zb_l (i + 5 * k)) s) (fun r => r.1 = zb_n (zb_bkr Q td n c i T0 k) ∧ (zb_bkr Q td n c i T0 k ≠ 0 → r.2 = s) ∧ (zb_bkr Q td n c i T0 k = 0 → zb_fr [151010, 152, 153, 154, 155, 156] s r.2 ∧ zb_MX N A B M O K LO LD LE td Q R (T0 + (k + 1)) (zb_bkT TK T0 c i.toNat (k + 1)) W WK Z ZK r.2 ∧ zb_MW N A B M O K LO LD LE td Q R (T0 + (k + 1)) (zb_bkT TK T0 c i.toNat (k + 1)) W WK Z ZK)) := by
  have hQ := hW.2.1
  have i6 := zb_ibn6 ht
  unfold F_X_bookRow
  have e0 : (0 : Int64) = zb_l 0 := rfl
  have e5 : (5 : Int64) = zb_l 5 := rfl
  simp only [i6, if_true, zb_n_ix (show t ≤ 2147483647 by omega), e179, zb_cmpn, zb_cmpe, zb_x_l, e0, e5, zb_l_add, zb_tn (show n ≤ 2147483647 by omega), zb_N181 ht, zb_l32]
  simp only [zb_l_lt (a := i + 5 * (k : Int)) (b := 0) (by omega) (by omega) (by omega) (by omega), zb_l_lt (a := (n : Int)) (b := i + 5 * (k : Int) + 5) (by omega) (by omega) (by omega) (by omega)]
  by_cases q1 : i + 5 * (k : Int) < 0
  · have er : zb_bkr Q td n c i T0 k = 1 := by unfold zb_bkr; rw [if_pos (by omega)]
    rw [if_pos q1, er]
    exact zb_Wsome ⟨rfl, fun _ => rfl, fun z => by omega⟩
  rw [if_neg q1]
  have i0 : 0 ≤ i := by
    by_cases z : 0 < k
    · exact hi z
    · omega
  by_cases q2 : (n : Int) < i + 5 * k + 5
  · have er : zb_bkr Q td n c i T0 k = 1 := by unfold zb_bkr; rw [if_pos (by omega)]
    rw [if_neg (not_not_intro q2), er]
    exact zb_Wsome ⟨rfl, fun _ => rfl, fun z => by omega⟩
  rw [if_pos q2]
  obtain ⟨j, rfl⟩ : ∃ j : Nat, i = j := ⟨i.toNat, by omega⟩
  have ep : zb_i ((j : Int) + 5 * (k : Int)) = zb_n (j + 5 * k) := by rw [zb_n_i]; congr 1
  have g : ∀ m : Nat, m ≤ 4 → zb_n (j + 5 * k) + zb_n m = zb_n (j + 5 * k + m) := fun m _ => zb_n_add _ _
  rw [ep, show (1 : Int32) = zb_n 1 from rfl, show (2 : Int32) = zb_n 2 from rfl, show (3 : Int32) = zb_n 3 from rfl, show (4 : Int32) = zb_n 4 from rfl, g 1 (by omega), g 2 (by omega), g 3 (by omega), g 4 (by omega)]
  have ib : ∀ m : Nat, m ≤ 4 → sv_ib (zb_n (j + 5 * k + m)) 80 = true := fun m hm => by rw [zb_ib_n (by omega)]; omega
  have rd : ∀ m : Nat, m ≤ 4 → (s.2.1 (181 + t) (zb_n (j + 5 * k + m)).toNatClampNeg).toInt32 = zb_bx c j k m := fun m hm => by rw [zb_n_ix (by omega), hc _ (by omega)]; rfl
  have ib0 := ib 0 (by omega)
  have rd0 := rd 0 (by omega)
  rw [Nat.add_zero] at ib0 rd0
  simp only [ib0, ib 1 (by omega), ib 2 (by omega), ib 3 (by omega), ib 4 (by omega), if_true, rd0, rd 1 (by omega), rd 2 (by omega), rd 3 (by omega), rd 4 (by omega)]
  refine zb_Wlet (zb_Wlet (zb_Wlet (zb_Wlet (zb_Wlet ?_))))
  rw [zb_truckRefusal hX hQ hW.1]
  refine zb_Wbind (zb_Wsome ?_)
  have ej : ((j : Int)).toNat = j := Int.toNat_natCast j
  by_cases q3 : zb_trf Q td (zb_bx c j k 0) (zb_bx c j k 1) (zb_bx c j k 2) (zb_bx c j k 3) (zb_bx c j k 4) = 0
  rotate_left
  · have er : zb_bkr Q td n c j T0 k = 2 := by unfold zb_bkr; rw [if_neg (by omega), ej, if_pos q3]
    rw [if_neg q3, er]
    exact zb_Wsome ⟨rfl, fun _ => rfl, fun z => by omega⟩
  refine zb_Wpos q3 ?_
  unfold F_Tr_areFull
  rw [hX.2.2.2.2.2.1.1, show (80 : Int32) = zb_n 80 from rfl]
  have h80 := hW.2.2.2.1
  by_cases q4 : T0 + k < 80
  · have er : zb_bkr Q td n c j T0 k = 0 := by unfold zb_bkr; rw [if_neg (by omega), ej, if_neg (not_not_intro q3), if_neg (not_not_intro q4)]
    rw [if_pos (by rw [zb_n_lt (by omega) (by omega)]; exact q4), er]
    refine zb_Wbind (zb_Wsome (zb_Wpos rfl ?_))
    obtain ⟨t1, t2, t3, t4⟩ := zb_truck_X hW hX q4 q3
    rw [t1]
    refine zb_Wbind (zb_Wsome (zb_Wsome ⟨rfl, fun z => absurd rfl z, fun _ => ⟨t2, ?_, ?_⟩⟩))
    · exact t3
    · exact t4
  · have er : zb_bkr Q td n c j T0 k = 3 := by unfold zb_bkr; rw [if_neg (by omega), ej, if_neg (not_not_intro q3), if_pos q4]
    rw [if_neg (by rw [zb_n_lt (by omega) (by omega)]; exact q4), er]
    exact zb_Wbind (zb_Wsome (zb_Wneg (by decide) (zb_Wsome ⟨rfl, fun _ => rfl, fun z => by omega⟩)))
def zb_ZBX : List Nat := [64010, 151010, 152, 153, 154, 155, 156]
def zb_ZBM : List Nat := [187051, 187050, 222, 223, 224, 225, 226]
theorem zb_book_X {nn : Nat} (hnn : nn ≤ 16) (ht : t < 6) (hn : n ≤ 80) (i1 : -2147483648 ≤ i) (i2 : i ≤ 2147483647) : ∀ (m fu k : Nat) (s : sv_S), k + m = nn → m < fu → (0 < k → 0 ≤ i) → zb_MW N A B M O K LO LD LE td Q R (T0 + k) (zb_bkT TK T0 c i.toNat k) W WK Z ZK → zb_MX N A B M O K LO LD LE td Q R (T0 + k) (zb_bkT TK T0 c i.toNat k) W WK Z ZK s → s.1 179 t = zb_n n → (∀ p, p < 80 → s.2.1 (181 + t) p = c p) → s.1 64 10 = zb_n 0 →
    zb_W (F_X_book_b57 fu (zb_n t) (zb_i i) (zb_n nn) (zb_n k) s) (fun r => r.1 = zb_n (zb_bkf (zb_bkr Q td n c i T0) m k).1 ∧ r.2.1 64 10 = zb_n (zb_bkf (zb_bkr Q td n c i T0) m k).2 ∧ zb_MX N A B M O K LO LD LE td Q R (T0 + (zb_bkf (zb_bkr Q td n c i T0) m k).1) (zb_bkT TK T0 c i.toNat (zb_bkf (zb_bkr Q td n c i T0) m k).1) W WK Z ZK r.2 ∧ zb_MW N A B M O K LO LD LE td Q R (T0 + (zb_bkf (zb_bkr Q td n c i T0) m k).1) (zb_bkT TK T0 c i.toNat (zb_bkf (zb_bkr Q td n c i T0) m k).1) W WK Z ZK ∧ zb_fr zb_ZBX s r.2) := by
  intro m
  induction m with
  | zero =>
    intro fu k s hk hf hi hW hX e1 e2 e3
    obtain ⟨f, rfl⟩ : ∃ f, fu = f + 1 := ⟨fu - 1, by omega⟩
    simp only [F_X_book_b57]
    refine zb_Wpos (by rw [zb_n_le (by omega) (by omega)]; omega) (zb_Wsome ?_)
    simp only [zb_bkf]
    exact ⟨by rw [← hk, Nat.add_zero], e3, hX, hW, zb_fr_refl _ _⟩
  | succ m ih =>
    intro fu k s hk hf hi hW hX e1 e2 e3
    obtain ⟨f, rfl⟩ : ∃ f, fu = f + 1 := ⟨fu - 1, by omega⟩
    simp only [F_X_book_b57]
    refine zb_Wneg (by rw [zb_n_le (by omega) (by omega)]; omega) ?_
    have ey : (zb_i i).toInt64 + (5 : Int64) * (zb_n k).toInt64 = zb_l (i + 5 * k) := by
      rw [zb_x_l, zb_x_l, show (5 : Int64) = zb_l 5 from rfl, zb_l_mul, zb_l_add, zb_ti i1 i2, zb_tn (by omega)]
    rw [ey]
    refine zb_Wbind2 (zb_bookRow hW hX ht hn e1 e2 i1 i2 (by omega) hi) (fun r hr => zb_Wlet ?_)
    obtain ⟨r1, r2, r3⟩ := hr
    have el := zb_bkr_le (Q := Q) (td := td) (n := n) (c := c) (i := i) (T0 := T0) k
    rw [zb_set_eq, r1]
    simp only [zb_bkf]
    by_cases q : zb_bkr Q td n c i T0 k = 0
    · rw [q] at r3 ⊢
      obtain ⟨f1, X1, W1⟩ := r3 rfl
      rw [if_pos rfl]
      refine zb_Wpos rfl (zb_Wlet ?_)
      rw [show zb_n k + (1 : Int32) = zb_n (k + 1) from zb_n_add k 1]
      have f2 : zb_fr [64010] r.2 (ss_setI r.2 64 10 (zb_n 0)) := zb_fr_set (zb_fr_refl _ _) rfl
      have f3 : zb_fr zb_ZBX s (ss_setI r.2 64 10 (zb_n 0)) := zb_fr_trans (zb_fr_mono f1 (by decide)) (zb_fr_mono f2 (by decide))
      have i0 : 0 ≤ i := by
        unfold zb_bkr at q
        by_cases z : 0 ≤ i ∧ i + 5 * k + 5 ≤ n
        · exact z.1
        · rw [if_pos z] at q; omega
      refine zb_Wmono (ih f (k + 1) _ (by omega) (by omega) (fun _ => i0) W1 (zb_MX_fr hW.2.1 X1 f2 (by decide) (by decide)) ((f3.1 179 t rfl).trans e1) (fun p hp => by rw [f3.2]; exact e2 p hp) zb_set_eq) (fun v hv => ?_)
      exact ⟨hv.1, hv.2.1, hv.2.2.1, hv.2.2.2.1, zb_fr_trans f3 hv.2.2.2.2⟩
    · rw [if_neg q, r2 q]
      refine zb_Wneg (by rw [show (0 : Int32) = zb_n 0 from rfl, zb_n_eq (by omega) (by omega)]; exact q) (zb_Wsome ?_)
      have f2 : zb_fr [64010] s (ss_setI s 64 10 (zb_n (zb_bkr Q td n c i T0 k))) := zb_fr_set (zb_fr_refl _ _) rfl
      exact ⟨rfl, zb_set_eq, zb_MX_fr hW.2.1 hX f2 (by decide) (by decide), hW, zb_fr_mono f2 (by decide)⟩
theorem zb_book_M {nn : Nat} {o : Int} (hnn : nn ≤ 16) (ht : t < 6) (hn : n ≤ 80) (i1 : -2147483648 ≤ i) (i2 : i ≤ 2147483647) (o1 : -1 ≤ o) (o3 : o ≤ 3) (on : o = -1 → n = 0) (hT : ∀ k, k ≤ (zb_bkf (zb_bkr Q td n c i T0) nn 0).1 → zb_MW N A B M O K LO LD LE td Q R (T0 + k) (zb_bkT TK T0 c i.toNat k) W WK Z ZK) : ∀ (m fu k : Nat) (s : sv_S), k + m = nn → m + 1 < fu → zb_bkf (zb_bkr Q td n c i T0) m k = zb_bkf (zb_bkr Q td n c i T0) nn 0 → k ≤ (zb_bkf (zb_bkr Q td n c i T0) nn 0).1 → zb_MM N A B M O K LO LD LE td Q R (T0 + k) (zb_bkT TK T0 c i.toNat k) W WK Z ZK s → s.1 239 t = zb_i o → s.1 240 t = zb_n n → (∀ p, p < 80 → s.2.1 241 (80 * t + p) = c p) → s.1 187 51 = zb_n 0 →
    zb_W (F_Mo_book_b57 fu (zb_n t) (zb_i i) (zb_n nn) (zb_n k) (zb_n k) s) (fun r => r.1 = zb_n (zb_bkf (zb_bkr Q td n c i T0) nn 0).1 ∧ r.2.1 187 51 = zb_n (zb_bkf (zb_bkr Q td n c i T0) nn 0).2 ∧ zb_MM N A B M O K LO LD LE td Q R (T0 + (zb_bkf (zb_bkr Q td n c i T0) nn 0).1) (zb_bkT TK T0 c i.toNat (zb_bkf (zb_bkr Q td n c i T0) nn 0).1) W WK Z ZK r.2 ∧ zb_fr zb_ZBM s r.2) := by
  intro m
  induction m with
  | zero =>
    intro fu k s hk hf hb hkc hM e1 e2 e3 e4
    obtain ⟨f, rfl⟩ : ∃ f, fu = f + 1 := ⟨fu - 1, by omega⟩
    rw [← hb]
    simp only [F_Mo_book_b57]
    refine zb_Wpos (by rw [zb_n_le (by omega) (by omega)]; omega) (zb_Wsome ?_)
    simp only [zb_bkf]
    exact ⟨trivial, e4, hM, zb_fr_refl _ _⟩
  | succ m ih =>
    intro fu k s hk hf hb hkc hM e1 e2 e3 e4
    obtain ⟨f, rfl⟩ : ∃ f, fu = f + 1 := ⟨fu - 1, by omega⟩
    have i6 := zb_ibn6 ht
    have ix : (zb_n t).toNatClampNeg = t := zb_n_ix (by omega)
    have hW := hT k hkc
    -- the row fails
    have fail : ∀ e : Nat, e ≤ 3 → e ≠ 0 → zb_bkr Q td n c i T0 k = e → zb_W (F_Mo_book_b57 f (zb_n t) (zb_i i) (zb_n nn) (zb_n k) (zb_n (k + 1)) (ss_setI s 187 51 (zb_n e))) (fun r => r.1 = zb_n (zb_bkf (zb_bkr Q td n c i T0) nn 0).1 ∧ r.2.1 187 51 = zb_n (zb_bkf (zb_bkr Q td n c i T0) nn 0).2 ∧ zb_MM N A B M O K LO LD LE td Q R (T0 + (zb_bkf (zb_bkr Q td n c i T0) nn 0).1) (zb_bkT TK T0 c i.toNat (zb_bkf (zb_bkr Q td n c i T0) nn 0).1) W WK Z ZK r.2 ∧ zb_fr zb_ZBM s r.2) := by
      intro e he e0 er
      obtain ⟨g, rfl⟩ : ∃ g, f = g + 1 := ⟨f - 1, by omega⟩
      have eb : zb_bkf (zb_bkr Q td n c i T0) nn 0 = (k, e) := by
        rw [← hb]
        simp only [zb_bkf]
        rw [if_neg (by rw [er]; exact e0), er]
      have f2 : zb_fr [187051] s (ss_setI s 187 51 (zb_n e)) := zb_fr_set (zb_fr_refl _ _) rfl
      have M2 := zb_MM_fr hM f2 (by decide)
      rw [eb]
      simp only [F_Mo_book_b57]
      refine zb_Wif (fun _ => zb_Wsome ⟨rfl, zb_set_eq, M2, zb_fr_mono f2 (by decide)⟩) (fun _ => ?_)
      refine zb_Wneg (by rw [zb_set_eq, show (0 : Int32) = zb_n 0 from rfl, zb_n_eq (by omega) (by omega)]; exact e0) (zb_Wsome ⟨rfl, zb_set_eq, M2, zb_fr_mono f2 (by decide)⟩)
    have torn : zb_bkr Q td n c i T0 k = 1 → zb_W (F_Mo_book_b100 (F_Mo_book_b57 f) (zb_n t) (zb_i i) (zb_n nn) (zb_n k) (zb_n k) s) (fun r => r.1 = zb_n (zb_bkf (zb_bkr Q td n c i T0) nn 0).1 ∧ r.2.1 187 51 = zb_n (zb_bkf (zb_bkr Q td n c i T0) nn 0).2 ∧ zb_MM N A B M O K LO LD LE td Q R (T0 + (zb_bkf (zb_bkr Q td n c i T0) nn 0).1) (zb_bkT TK T0 c i.toNat (zb_bkf (zb_bkr Q td n c i T0) nn 0).1) W WK Z ZK r.2 ∧ zb_fr zb_ZBM s r.2) := by
      intro er
      unfold F_Mo_book_b100 F_Mo_book_b202
      refine zb_Wlet (zb_Wlet ?_)
      rw [show zb_n k + (1 : Int32) = zb_n (k + 1) from zb_n_add k 1]
      exact fail 1 (by omega) (by omega) er
    simp only [F_Mo_book_b57]
    refine zb_Wneg (by rw [zb_n_le (by omega) (by omega)]; omega) ?_
    rw [e4]
    refine zb_Wpos rfl (zb_Wpos i6 ?_)
    rw [ix, e1, e2]
    by_cases q1 : o < 0
    · refine zb_Wpos (by rw [zb_sg1 (by omega) (by omega)]; exact q1) (torn ?_)
      have := on (by omega)
      unfold zb_bkr; rw [if_pos (by omega)]
    refine zb_Wneg (by rw [zb_sg1 (by omega) (by omega)]; exact q1) ?_
    by_cases q2 : i < 0
    · refine zb_Wpos (by rw [zb_sg1 (by omega) (by omega)]; exact q2) (torn ?_)
      unfold zb_bkr; rw [if_pos (by omega)]
    refine zb_Wneg (by rw [zb_sg1 (by omega) (by omega)]; exact q2) (zb_Wpos i6 ?_)
    have e5 : zb_n n - (5 : Int32) * zb_n k - (5 : Int32) = zb_i ((n : Int) - 5 * k - 5) := by
      rw [show (5 : Int32) = zb_i 5 from zb_n_i 5, zb_n_i, zb_n_i, zb_i_mul, zb_i_sub, zb_i_sub]
    rw [e5]
    by_cases q3 : i ≤ (n : Int) - 5 * k - 5
    rotate_left
    · refine zb_Wneg (by rw [zb_i_le (by omega) (by omega) (by omega) (by omega)]; exact q3) (torn ?_)
      unfold zb_bkr; rw [if_pos (by omega)]
    refine zb_Wpos (by rw [zb_i_le (by omega) (by omega) (by omega) (by omega)]; exact q3) (zb_Wlet ?_)
    obtain ⟨j, rfl⟩ : ∃ j : Nat, i = j := ⟨i.toNat, by omega⟩
    have ej : ((j : Int)).toNat = j := Int.toNat_natCast j
    have ep : (80 : Int32) * zb_n t + zb_i (j : Int) + (5 : Int32) * zb_n k = zb_n (80 * t + j + 5 * k) := by
      rw [← zb_n_i, show (80 : Int32) = zb_n 80 from rfl, show (5 : Int32) = zb_n 5 from rfl, zb_n_mul, zb_n_mul, zb_n_add, zb_n_add]
    have g : ∀ m : Nat, m ≤ 4 → zb_n (80 * t + j + 5 * k) + zb_n m = zb_n (80 * t + j + 5 * k + m) := fun m _ => zb_n_add _ _
    rw [ep, show (1 : Int32) = zb_n 1 from rfl, show (2 : Int32) = zb_n 2 from rfl, show (3 : Int32) = zb_n 3 from rfl, show (4 : Int32) = zb_n 4 from rfl, g 1 (by omega), g 2 (by omega), g 3 (by omega), g 4 (by omega)]
    have ib : ∀ m : Nat, m ≤ 4 → sv_ib (zb_n (80 * t + j + 5 * k + m)) 480 = true := fun m hm => by rw [zb_ib_n (by omega)]; omega
    have rd : ∀ m : Nat, m ≤ 4 → (s.2.1 241 (zb_n (80 * t + j + 5 * k + m)).toNatClampNeg).toInt32 = zb_bx c j k m := fun m hm => by
      rw [zb_n_ix (by omega), show 80 * t + j + 5 * k + m = 80 * t + (j + 5 * k + m) by omega, e3 _ (by omega)]; rfl
    have ib0 := ib 0 (by omega)
    have rd0 := rd 0 (by omega)
    rw [Nat.add_zero] at ib0 rd0
    simp only [ib0, ib 1 (by omega), ib 2 (by omega), ib 3 (by omega), ib 4 (by omega), if_true, rd0, rd 1 (by omega), rd 2 (by omega), rd 3 (by omega), rd 4 (by omega)]
    refine zb_Wbind2 (zb_truck_M hW hM) (fun r hr => ?_)
    obtain ⟨r1, r2, r3⟩ := hr
    by_cases q4 : zb_trf Q td (zb_bx c j k 0) (zb_bx c j k 1) (zb_bx c j k 2) (zb_bx c j k 3) (zb_bx c j k 4) = 0
    rotate_left
    · have er : zb_bkr Q td n c j T0 k = 2 := by unfold zb_bkr; rw [if_neg (by omega), ej, if_pos q4]
      rw [r1 q4]
      unfold F_Mo_book_b199 F_Mo_book_b202
      have l := zb_trf_lt (Q := Q) (td := td) (zb_bx c j k 0) (zb_bx c j k 1) (zb_bx c j k 2) (zb_bx c j k 3) (zb_bx c j k 4)
      have z := fail 2 (by omega) (by omega) er
      have e1k : zb_n k + (1 : Int32) = zb_n (k + 1) := zb_n_add k 1
      rcases l with l | l | l
      · exact absurd l q4
      · rw [l]
        dsimp only
        refine zb_Wpos (by decide) (zb_Wneg (by decide) (zb_Wlet (zb_Wlet ?_)))
        rw [e1k]; exact z
      · rw [l]
        dsimp only
        refine zb_Wpos (by decide) (zb_Wneg (by decide) (zb_Wlet (zb_Wlet ?_)))
        rw [e1k]; exact z
    by_cases q5 : T0 + k < 80
    rotate_left
    · have er : zb_bkr Q td n c j T0 k = 3 := by unfold zb_bkr; rw [if_neg (by omega), ej, if_neg (not_not_intro q4), if_pos q5]
      rw [r2 q4 q5]
      unfold F_Mo_book_b199 F_Mo_book_b202
      dsimp only
      refine zb_Wpos (by decide) (zb_Wpos rfl (zb_Wlet (zb_Wlet ?_)))
      rw [show zb_n k + (1 : Int32) = zb_n (k + 1) from zb_n_add k 1]
      exact fail 3 (by omega) (by omega) er
    have er : zb_bkr Q td n c j T0 k = 0 := by unfold zb_bkr; rw [if_neg (by omega), ej, if_neg (not_not_intro q4), if_neg (not_not_intro q5)]
    obtain ⟨v1, v2, v3⟩ := r3 q4 q5
    rw [v1]
    refine zb_Wneg (by rw [zb_n_i]; exact zb_ge0' (by omega) (by omega)) (zb_Wlet ?_)
    unfold F_Mo_book_b202
    refine zb_Wlet ?_
    rw [show zb_n k + zb_n 1 = zb_n (k + 1) from zb_n_add k 1, show zb_n k + (1 : Int32) = zb_n (k + 1) from zb_n_add k 1]
    have hb2 : zb_bkf (zb_bkr Q td n c j T0) m (k + 1) = zb_bkf (zb_bkr Q td n c j T0) nn 0 := by
      rw [← hb]
      conv => rhs; unfold zb_bkf
      rw [if_pos er]
    have kc2 : k + 1 ≤ (zb_bkf (zb_bkr Q td n c j T0) nn 0).1 := by
      rw [← hb2]
      have : ∀ (f : Nat → Nat) m k, k ≤ (zb_bkf f m k).1 := by
        intro f m
        induction m with
        | zero => intro k; exact Nat.le_refl _
        | succ m ih =>
          intro k
          unfold zb_bkf
          split
          · exact Nat.le_trans (by omega) (ih (k + 1))
          · exact Nat.le_refl _
      exact this _ _ _
    refine zb_Wmono (ih f (k + 1) r.2 (by omega) (by omega) hb2 kc2 v3 ((v2.1 239 t rfl).trans e1) ((v2.1 240 t rfl).trans e2) (fun p hp => by rw [v2.2]; exact e3 p hp) ((v2.1 187 51 rfl).trans e4)) (fun w hw => ?_)
    exact ⟨hw.1, hw.2.1, hw.2.2.1, zb_fr_trans (zb_fr_mono v2 (by decide)) hw.2.2.2⟩
theorem zb_book_W {f : Nat → Nat} (P : Nat → Prop) (h0 : P 0) (hs : ∀ k, f k = 0 → P k → P (k + 1)) : ∀ m k, P k → ∀ j, k ≤ j → j ≤ (zb_bkf f m k).1 → P j := by
  intro m
  induction m with
  | zero => intro k hk j h1 h2; simp only [zb_bkf] at h2; rw [show j = k by omega]; exact hk
  | succ m ih =>
    intro k hk j h1 h2
    simp only [zb_bkf] at h2
    by_cases q : f k = 0
    · rw [if_pos q] at h2
      by_cases e : j = k
      · rw [e]; exact hk
      · exact ih (k + 1) (hs k q hk) j (by omega) h2
    · rw [if_neg q] at h2
      rw [show j = k by omega]; exact hk
theorem zb_c_book (h : zb_J s) : zb_m11 (F_X_book x1 x2 x3 s) (F_Mo_book x1 x2 x3) s := by
  obtain ⟨N, A, B, M, O, K, LO, LD, LE, td, Q, R, T, TK, W, WK, Z, ZK, h⟩ := h
  have hj := zb_J_of h
  have no : ∀ v : Int32, F_X_book x1 x2 x3 s = some (v, s) → F_Mo_book x1 x2 x3 s = some (v, s) → zb_m11 (F_X_book x1 x2 x3 s) (F_Mo_book x1 x2 x3) s := fun v a b => zb_m11_no hj a b
  have z1 : (x3 < (1 : Int32)) = (x3.toInt < 1) := by rw [show (1 : Int32) = zb_n 1 from rfl]; exact zb_c_ltn (by omega)
  have z2 : (x3 ≤ (16 : Int32)) = (x3.toInt ≤ 16) := by rw [show (16 : Int32) = zb_n 16 from rfl]; exact zb_c_len (by omega)
  have t1 : (1 : Int32).toInt = 1 := by decide
  have t16 : (16 : Int32).toInt = 16 := by decide
  by_cases q1 : 0 ≤ x1.toInt ∧ x1.toInt ≤ 5
  rotate_left
  · exact no (-1 : Int32) (by simp only [F_X_book, zb_g_tape, Option.bind_some, zb_bz]; rw [if_pos q1]) (by simp only [F_Mo_book, zb_h_tape, Option.bind_some, zb_bz]; rw [if_pos q1])
  obtain ⟨t, ht, rfl⟩ := zb_an2 q1
  have ht6 : t < 6 := by omega
  have i6 := zb_ibn6 ht6
  have ix : (zb_n t).toNatClampNeg = t := zb_n_ix (by omega)
  obtain ⟨o, n, p1, p2, p3, p4, p5, p6, p7, p8, p9⟩ := h.2.2.2.1.2.2.1 t ht6
  have eo : (zb_i o = zb_i (-1)) = (o = -1) := zb_i_eq (by omega) (by omega) (by omega) (by omega)
  have eo2 : (zb_i o = zb_i 2) = (o = 2) := zb_i_eq (by omega) (by omega) (by omega) (by omega)
  have o1 := zb_sg1 (x := o) (by omega) (by omega)
  have xg : F_X_book (zb_n t) x2 x3 s = if x3.toInt < 1 then some ((-2 : Int32), s) else if x3.toInt ≤ 16 then (if o = -1 then F_X_book_b49 (zb_n t) x2 x3 s else if o = 2 then F_X_book_b49 (zb_n t) x2 x3 s else some ((-12 : Int32), s)) else some ((-2 : Int32), s) := by
    simp only [F_X_book, zb_g_tape, Option.bind_some, zb_bz]
    rw [if_neg (not_not_intro q1)]
    simp only [z1, z2, i6, if_true, ix, p5, ss_let]
    rw [zb_m1, show (2 : Int32) = zb_i 2 from zb_n_i 2]
    simp only [eo, eo2]
  have mg : ∀ u : sv_S, u.1 239 t = zb_i o → F_Mo_book (zb_n t) x2 x3 u = if ¬ (1 ≤ x3.toInt ∧ x3.toInt ≤ 16) then some ((-2 : Int32), u) else if o < 0 then F_Mo_book_b46 (zb_n t) x2 x3 u else if o = 2 then F_Mo_book_b46 (zb_n t) x2 x3 u else some ((-12 : Int32), u) := by
    intro u hu
    simp only [F_Mo_book, zb_h_tape, Option.bind_some, zb_bz]
    rw [if_neg (not_not_intro q1)]
    simp only [i6, if_true, ix, hu, zb_h_inL, Option.bind_some, zb_bz, t1, t16, o1]
    rw [show (2 : Int32) = zb_i 2 from zb_n_i 2]
    simp only [eo2]
  by_cases w1 : 1 ≤ x3.toInt ∧ x3.toInt ≤ 16
  rotate_left
  · refine no (-2 : Int32) ?_ (by rw [mg s p6, if_pos w1])
    rw [xg]
    by_cases w : x3.toInt < 1
    · rw [if_pos w]
    · rw [if_neg w, if_neg (by omega)]
  rw [if_neg (by omega), if_pos w1.2] at xg
  simp only [if_neg (not_not_intro w1)] at mg
  by_cases w2 : o = -1 ∨ o = 2
  rotate_left
  · exact no _ (by rw [xg, if_neg (fun z => w2 (Or.inl z)), if_neg (fun z => w2 (Or.inr z))]) (by rw [mg s p6, if_neg (by omega), if_neg (fun z => w2 (Or.inr z))])
  have xg2 : F_X_book (zb_n t) x2 x3 s = F_X_book_b49 (zb_n t) x2 x3 s := by
    rw [xg]
    by_cases w : o = -1
    · rw [if_pos w]
    · rw [if_neg w, if_pos (by omega)]
  have mg2 : ∀ u : sv_S, u.1 239 t = zb_i o → F_Mo_book (zb_n t) x2 x3 u = F_Mo_book_b46 (zb_n t) x2 x3 u := by
    intro u hu
    rw [mg u hu]
    by_cases w : o < 0
    · rw [if_pos w]
    · rw [if_neg w, if_pos (by omega)]
  obtain ⟨nn, hnn, e3⟩ : ∃ a : Nat, x3.toInt = a ∧ x3 = zb_n a := ⟨x3.toInt.toNat, by omega, zb_an (by omega)⟩
  have nn16 : nn ≤ 16 := by omega
  subst e3
  have i1 := Int32.le_toInt x2
  have i2 := Int32.toInt_lt x2
  obtain ⟨i, ei, ex2⟩ : ∃ i : Int, x2.toInt = i ∧ x2 = zb_i i := ⟨x2.toInt, rfl, zb_i_of x2⟩
  rw [ei] at i1 i2
  subst ex2
  unfold zb_m11
  rw [xg2]
  unfold F_X_book_b49
  have fs : zb_fr zb_ZBX s (ss_setI s 64 10 (zb_n 0)) := zb_fr_set (zb_fr_refl _ _) rfl
  have fs0 : zb_fr [64010] s (ss_setI s 64 10 (zb_n 0)) := zb_fr_set (zb_fr_refl _ _) rfl
  refine zb_Wlet ?_
  refine zb_Wmono (zb_book_X (T0 := T) (TK := TK) (c := s.2.1 (181 + t)) (n := n) nn16 ht6 p3 (by omega) (by omega) nn ss_F 0 (ss_setI s 64 10 (zb_n 0)) (by omega) (by unfold ss_F; omega) (fun z => by omega) h.1 (zb_MX_fr h.1.2.1 h.2.2.1 fs0 (by decide) (by decide)) ((fs.1 179 t rfl).trans p7) (fun p _ => by rw [fs.2]) zb_set_eq) (fun r hr => ?_)
  obtain ⟨r1, r2, r3, r4, r5⟩ := hr
  have fr := zb_fr_trans fs r5
  refine ⟨zb_keep_fr fr rfl, ?_⟩
  rw [mg2 _ ((fr.1 239 t rfl).trans p6)]
  unfold F_Mo_book_b46
  refine zb_Wlet ?_
  have fm : zb_fr zb_ZBM r.2 (ss_setI r.2 187 51 (zb_n 0)) := zb_fr_set (zb_fr_refl _ _) rfl
  have fm0 : zb_fr [187051] r.2 (ss_setI r.2 187 51 (zb_n 0)) := zb_fr_set (zb_fr_refl _ _) rfl
  have M1 := zb_MM_fr (zb_MM_fr h.2.1 fr (by decide)) fm0 (by decide)
  have hcs : ∀ p, p < 80 → r.2.2.1 241 (80 * t + p) = s.2.1 (181 + t) p := fun p hp => by rw [fr.2]; exact (p9 p hp).symm
  have hT : ∀ k, k ≤ (zb_bkf (zb_bkr Q td n (s.2.1 (181 + t)) i T) nn 0).1 → zb_MW N A B M O K LO LD LE td Q R (T + k) (zb_bkT TK T (s.2.1 (181 + t)) i.toNat k) W WK Z ZK := by
    intro k hk
    refine zb_book_W (f := zb_bkr Q td n (s.2.1 (181 + t)) i T) (fun k => zb_MW N A B M O K LO LD LE td Q R (T + k) (zb_bkT TK T (s.2.1 (181 + t)) i.toNat k) W WK Z ZK) h.1 (fun k q hk => ?_) nn 0 h.1 k (by omega) hk
    unfold zb_bkr at q
    by_cases g1 : 0 ≤ i ∧ i + 5 * k + 5 ≤ n
    rotate_left
    · rw [if_pos g1] at q; omega
    rw [if_neg (not_not_intro g1)] at q
    by_cases g2 : zb_trf Q td (zb_bx (s.2.1 (181 + t)) i.toNat k 0) (zb_bx (s.2.1 (181 + t)) i.toNat k 1) (zb_bx (s.2.1 (181 + t)) i.toNat k 2) (zb_bx (s.2.1 (181 + t)) i.toNat k 3) (zb_bx (s.2.1 (181 + t)) i.toNat k 4) = 0
    rotate_left
    · rw [if_pos g2] at q; omega
    rw [if_neg (not_not_intro g2)] at q
    by_cases g3 : T + k < 80
    rotate_left
    · rw [if_pos g3] at q; omega
    refine ⟨hk.1, hk.2.1, hk.2.2.1, by omega, fun t' ht' => ?_, hk.2.2.2.2.2⟩
    simp only [zb_bkT]
    by_cases e : t' = T + k
    · rw [if_pos e]
      obtain ⟨a1, a2, a3, a4, a5⟩ := zb_trf_0 g2
      exact ⟨a1, a2, a3, a4, a5⟩
    · rw [if_neg e]; exact hk.2.2.2.2.1 t' (by omega)
  refine zb_Wmono (zb_book_M (T0 := T) (TK := TK) (c := s.2.1 (181 + t)) (n := n) (o := o) nn16 ht6 p3 (by omega) (by omega) p1 p2 p4 hT nn ss_F 0 (ss_setI r.2 187 51 (zb_n 0)) (by omega) (by unfold ss_F; omega) rfl (Nat.zero_le _) M1 ((fm.1 239 t rfl).trans ((fr.1 239 t rfl).trans p6)) ((fm.1 240 t rfl).trans ((fr.1 240 t rfl).trans p8)) (fun p hp => by rw [fm.2]; exact hcs p hp) zb_set_eq) (fun q hq => ?_)
  obtain ⟨v1, v2, v3, v4⟩ := hq
  have fq := zb_fr_trans fm v4
  have el := zb_bkf_le (f := zb_bkr Q td n (s.2.1 (181 + t)) i T) zb_bkr_le nn 0
  refine ⟨v1.trans r1.symm, zb_J_of ⟨r4, v3, zb_MX_fr r4.2.1 r3 fq (by decide) (by decide), ?_, ?_⟩, zb_keep_trans (zb_keep_fr fr rfl) (zb_keep_fr fq rfl)⟩
  · obtain ⟨⟨n1, j1, j2, j3, j4⟩, ⟨m1, a1, a2, a3, a4⟩, hP, _, hB⟩ := h.2.2.2.1
    have all : ∀ c k, (zb_ZBX ++ zb_ZBM).contains (zb_rg c k) = false → q.2.1 c k = s.1 c k := by
      intro c k z
      have z1 : zb_ZBX.contains (zb_rg c k) = false := by
        cases e : zb_ZBX.contains (zb_rg c k) with
        | false => rfl
        | true => rw [List.contains_iff_mem.mpr (List.mem_append.mpr (Or.inl (List.contains_iff_mem.mp e)))] at z; cases z
      have z2 : zb_ZBM.contains (zb_rg c k) = false := by
        cases e : zb_ZBM.contains (zb_rg c k) with
        | false => rfl
        | true => rw [List.contains_iff_mem.mpr (List.mem_append.mpr (Or.inr (List.contains_iff_mem.mp e)))] at z; cases z
      exact (fq.1 c k z2).trans (fr.1 c k z1)
    refine ⟨⟨n1, j1, (all 77 3 rfl).trans j2, (all 187 11 rfl).trans j3, fun i hi => ?_⟩, ⟨m1, a1, (all 175 1 rfl).trans a2, (all 187 73 rfl).trans a3, fun i hi h2 => ?_⟩, fun t hh => ?_, ⟨((zb_bkf (zb_bkr Q td n (s.2.1 (181 + t)) i T) nn 0).2 : Int), by omega, by omega, ?_, ?_⟩, ⟨fun k hk => (all 1 k rfl).trans (hB.1 k hk), fun k hk => (all 2 k rfl).trans (hB.2 k hk)⟩⟩
    · rw [all 78 i rfl, all 197 _ rfl]; exact j4 i hi
    · rw [all 176 i rfl, all 238 i rfl]; exact a4 i hi h2
    · obtain ⟨o', n', f1, f2, f3, f4, f5, f6, f7, f8, f9⟩ := hP t hh
      refine ⟨o', n', f1, f2, f3, f4, (all 178 t rfl).trans f5, (all 239 t rfl).trans f6, (all 179 t rfl).trans f7, (all 240 t rfl).trans f8, fun i hi => ?_⟩
      rw [fq.2, fr.2]; exact f9 i hi
    · rw [v2, zb_n_i]
    · rw [fq.1 64 10 rfl, r2, if_neg (by omega), zb_n_i]
  · rw [fq.2, fr.2]; exact h.2.2.2.2
end BOK
