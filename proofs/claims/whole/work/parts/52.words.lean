/-! words of clauses -/
def zb_lk (t : Nat → Int32) (n : Nat) : Nat → List Nat → Nat
  | _, [] => 0
  | a, c :: w => if zb_nc t n a = zb_n c then zb_lk t n (a + 1) w + 1 else 0
def zb_ws : List (List Nat) := [[103, 111, 111, 100], [116, 101, 114, 109], [115, 109, 97, 108, 108], [110, 111, 116, 105, 99, 101], [98, 97, 99, 107], [103, 97, 105, 110], [109, 105, 108, 101, 115], [101, 118, 101, 110], [109, 111, 115, 116], [115, 97, 109, 101], [101, 120, 99, 117, 115, 101]]
def zb_wgo (t : Nat → Int32) (n a : Nat) : List (List Nat) → Nat → Nat → Int × Nat
  | [], _, far => (-1, far)
  | w :: ws, i, far => if zb_lk t n a w = w.length then ((i : Int), a + w.length) else zb_wgo t n a ws (i + 1) (max far (a + zb_lk t n a w))
def zb_wd (t : Nat → Int32) (n a : Nat) : Int × Nat := zb_wgo t n a zb_ws 0 a
theorem zb_lk_le {t : Nat → Int32} {n : Nat} : ∀ (w : List Nat) (a : Nat), (∀ c, c ∈ w → c ≤ 127) → a ≤ n → zb_lk t n a w ≤ w.length ∧ a + zb_lk t n a w ≤ n
  | [], a, _, ha => by simp [zb_lk]; exact ha
  | c :: w, a, hw, ha => by
    simp only [zb_lk]
    by_cases q : zb_nc t n a = zb_n c
    · have hlt := zb_nc_lt (hw c (by simp)) q
      have := zb_lk_le (t := t) (n := n) w (a + 1) (fun x hx => hw x (by simp [hx])) (by omega)
      rw [if_pos q]; simp; omega
    · rw [if_neg q]; simp; exact ha
theorem zb_dropc {α : Type} (l : List α) (j : Nat) (d : α) (h : j < l.length) : l.drop j = l.getD j d :: l.drop (j + 1) := by
  rw [List.drop_eq_getElem_cons h, List.getD_eq_getElem?_getD, List.getElem?_eq_getElem h]; rfl
theorem zb_getD_mem {α : Type} (l : List α) (j : Nat) (d : α) (h : j < l.length) : l.getD j d ∈ l := by
  rw [List.getD_eq_getElem?_getD, List.getElem?_eq_getElem h]; exact List.getElem_mem h
/-- the class's spellings lie in their cells -/
def zb_SS (s : sv_S) : Prop := ∀ i, i < 11 → s.1 (3 + i) 1 = 0 ∧ ∀ j, j < (zb_ws.getD i []).length → s.1 (14 + i) j = zb_n ((zb_ws.getD i []).getD j 0)
theorem zb_ch : ∀ c : Fin 128, sv_ch ((((zb_n c.val) &&& (255 : Int32)).toUInt32 % 65536).toInt32) = true ∧ (((zb_n c.val) &&& (255 : Int32)).toUInt32 % 65536).toInt32 = zb_n c.val := by decide +kernel
theorem zb_wl : ∀ i, i < 11 → ss_LR (3 + i) 0 = some (14 + i) ∧ ss_K (14 + i) = 22 ∧ ss_lnL.getD (14 + i) 0 = (zb_ws.getD i []).length ∧ (zb_ws.getD i []).length ≤ 6 ∧ (∀ c, c ∈ zb_ws.getD i [] → c ≤ 127) := by decide +kernel
section WD
variable {t : Nat → Int32} {n a : Nat} {st : List Int32} {s : sv_S}
theorem zb_JS_length {i : Nat} (hi : i < 11) (h : zb_SS s) : F_JS_length (3 + i) s = some (zb_n (zb_ws.getD i []).length) := by
  obtain ⟨w1, w2, w3, w4, w5⟩ := zb_wl i hi
  unfold F_JS_length
  have ok : ss_ok s (14 + i) 22 = true := by unfold ss_ok; rw [decide_eq_true_eq]; exact ⟨w2, by omega⟩
  have ln : ss_N s.2.2.2.1 (14 + i) = (zb_ws.getD i []).length := by unfold ss_N; rw [if_neg (by omega), if_pos (by omega)]; exact w3
  rw [w1, Option.bind_some, if_pos ok, ln]
  have cd : F_JS_coder (3 + i) s = some 0 := by unfold F_JS_coder; rw [(h i hi).1, if_neg (by decide)]; rfl
  rw [cd, Option.bind_some]
  generalize (zb_ws.getD i []).length = m at w4
  have : m = 0 ∨ m = 1 ∨ m = 2 ∨ m = 3 ∨ m = 4 ∨ m = 5 ∨ m = 6 := by omega
  rcases this with rfl | rfl | rfl | rfl | rfl | rfl | rfl <;> decide
theorem zb_JS_charAt {i j : Nat} (hi : i < 11) (hj : j < (zb_ws.getD i []).length) (h : zb_SS s) : F_JS_charAt (3 + i) (zb_n j) s = some (zb_n ((zb_ws.getD i []).getD j 0), s) := by
  obtain ⟨w1, w2, w3, w4, w5⟩ := zb_wl i hi
  have ok : ss_ok s (14 + i) 22 = true := by unfold ss_ok; rw [decide_eq_true_eq]; exact ⟨w2, by omega⟩
  have ln : ss_N s.2.2.2.1 (14 + i) = (zb_ws.getD i []).length := by unfold ss_N; rw [if_neg (by omega), if_pos (by omega)]; exact w3
  have l1 : F_JS_isLatin1 (3 + i) s = some 1 := by unfold F_JS_isLatin1; rw [(h i hi).1, if_neg (by decide), if_pos rfl]
  have cj : (zb_ws.getD i []).getD j 0 ≤ 127 := w5 _ (zb_getD_mem _ _ _ hj)
  obtain ⟨c1, c2⟩ := zb_ch ⟨(zb_ws.getD i []).getD j 0, by omega⟩
  unfold F_JS_charAt
  rw [l1, Option.bind_some, if_neg (by decide), w1, Option.bind_some, if_pos ok]
  unfold F_JL_charAt F_JS_checkIndex F_JP_checkIndex
  have e0 : Int32.ofNat (ss_N s.2.2.2.1 (14 + i)) = zb_n (zb_ws.getD i []).length := by rw [ln]; rfl
  rw [e0, if_neg (by rw [show (0 : Int32) = zb_n 0 from rfl, zb_n_lt (by omega) (by omega)]; omega), if_pos (by rw [zb_n_lt (by omega) (by omega)]; exact hj)]
  simp only [Option.bind_some]
  rw [ln, if_pos (by rw [zb_ib_n (by omega)]; exact hj), zb_n_ix (by omega), (h i hi).2 j hj]
  simp only at c1 c2
  rw [c2, if_pos (by rw [c2] at c1; exact c1)]
  simp only [Option.bind_some]
  rw [if_pos (by rw [c2] at c1; exact c1)]
theorem zb_Lt_like {i : Nat} (hi : i < 11) (hS : zb_SS s) (h : zb_LT t n a st s) : F_Lt_likeness (3 + i) s = some (zb_n (zb_lk t n a (zb_ws.getD i [])), s) := by
  obtain ⟨w1, w2, w3, w4, w5⟩ := zb_wl i hi
  obtain ⟨⟨b1, b2, b3⟩, h1, h2, h3, h4, h5⟩ := h
  have go : ∀ (m j f : Nat), j + m = (zb_ws.getD i []).length → m < f → a + j ≤ n → F_Lt_likeness_b2 f (3 + i) (zb_n j) s = some (zb_n (j + zb_lk t n (a + j) ((zb_ws.getD i []).drop j)), s) := by
    intro m
    induction m with
    | zero =>
      intro j f hj hf ha
      obtain ⟨f, rfl⟩ : ∃ g, f = g + 1 := ⟨f - 1, by omega⟩
      simp only [F_Lt_likeness_b2]
      rw [zb_JS_length hi hS, Option.bind_some, if_pos (by rw [zb_n_le (by omega) (by omega)]; omega), Option.bind_some, List.drop_of_length_le (by omega)]
      simp only [zb_lk]
      rw [show j + 0 = (zb_ws.getD i []).length by omega]
    | succ m ih =>
      intro j f hj hf ha
      obtain ⟨f, rfl⟩ : ∃ g, f = g + 1 := ⟨f - 1, by omega⟩
      have hjl : j < (zb_ws.getD i []).length := by omega
      have hd : (zb_ws.getD i []).drop j = (zb_ws.getD i []).getD j 0 :: (zb_ws.getD i []).drop (j + 1) := zb_dropc _ _ _ hjl
      simp only [F_Lt_likeness_b2]
      rw [zb_JS_length hi hS, Option.bind_some, if_neg (by rw [zb_n_le (by omega) (by omega)]; omega), h1, h2, hd]
      simp only [zb_lk]
      by_cases q : a + j < n
      · have e : zb_nc t n (a + j) = t (a + j) := by unfold zb_nc; rw [if_pos q]
        rw [zb_n_add, if_neg (by rw [zb_n_le (by omega) (by omega)]; omega), if_pos (by rw [zb_ib_n (by omega)]; omega), zb_JS_charAt hi hjl hS, Option.bind_some, zb_n_ix (by omega), h4 _ q, e]
        simp only
        by_cases u : t (a + j) = zb_n ((zb_ws.getD i []).getD j 0)
        · rw [if_pos u, if_pos u]
          have := ih (j + 1) f (by omega) (by omega) (by omega)
          simp only [ss_let]
          rw [show zb_n j + (1 : Int32) = zb_n (j + 1) from zb_n_add j 1, this, show a + (j + 1) = a + j + 1 by omega]
          congr 3; omega
        · rw [if_neg u, if_neg u]; rfl
      · rw [zb_n_add, if_pos (by rw [zb_n_le (by omega) (by omega)]; omega), if_neg]
        · rfl
        · intro w
          exact q (zb_nc_lt (w5 _ (zb_getD_mem _ _ _ hjl)) w)
  unfold F_Lt_likeness
  have := go (zb_ws.getD i []).length 0 ss_F (by omega) (by unfold ss_F; omega) (by omega)
  rw [List.drop_zero, Nat.zero_add, Nat.add_zero] at this
  exact this
theorem zb_Lt_word (hS : zb_SS s) (h : zb_LT t n a st s) : F_Lt_word s = some (zb_i (zb_wd t n a).1, ss_setI s 77 4 (zb_n (zb_wd t n a).2)) := by
  have hb := h.1
  have h4 := h.2.2.1
  have go : ∀ (m i f far : Nat), i + m = 11 → m < f → far ≤ n → F_Lt_word_b7 f (zb_n far) (zb_n i) s = some (zb_i (zb_wgo t n a (zb_ws.drop i) i far).1, ss_setI s 77 4 (zb_n (zb_wgo t n a (zb_ws.drop i) i far).2)) := by
    intro m
    induction m with
    | zero =>
      intro i f far hi hf hfar
      obtain ⟨f, rfl⟩ : ∃ g, f = g + 1 := ⟨f - 1, by omega⟩
      simp only [F_Lt_word_b7]
      rw [if_pos (by rw [show (11 : Int32) = zb_n 11 from rfl, zb_n_le (by omega) (by omega)]; omega), show i = 11 by omega, zb_m1]
      rfl
    | succ m ih =>
      intro i f far hi hf hfar
      obtain ⟨f, rfl⟩ : ∃ g, f = g + 1 := ⟨f - 1, by omega⟩
      have hi11 : i < 11 := by omega
      have hl : i < zb_ws.length := by show i < 11; exact hi11
      have hd : zb_ws.drop i = zb_ws.getD i [] :: zb_ws.drop (i + 1) := zb_dropc _ _ _ hl
      obtain ⟨w1, w2, w3, w4, w5⟩ := zb_wl i hi11
      have lk := zb_lk_le (t := t) (n := n) (zb_ws.getD i []) a w5 (by omega)
      have sp : F_Lt_spelled (zb_n i) s = some (3 + i) := by
        have : i = 0 ∨ i = 1 ∨ i = 2 ∨ i = 3 ∨ i = 4 ∨ i = 5 ∨ i = 6 ∨ i = 7 ∨ i = 8 ∨ i = 9 ∨ i = 10 := by omega
        rcases this with rfl | rfl | rfl | rfl | rfl | rfl | rfl | rfl | rfl | rfl | rfl <;> (unfold F_Lt_spelled; decide)
      have ok : ss_ok s (3 + i) 30 = true := by
        unfold ss_ok; rw [decide_eq_true_eq]
        refine ⟨?_, by omega⟩
        have : i = 0 ∨ i = 1 ∨ i = 2 ∨ i = 3 ∨ i = 4 ∨ i = 5 ∨ i = 6 ∨ i = 7 ∨ i = 8 ∨ i = 9 ∨ i = 10 := by omega
        rcases this with rfl | rfl | rfl | rfl | rfl | rfl | rfl | rfl | rfl | rfl | rfl <;> rfl
      simp only [F_Lt_word_b7]
      rw [if_neg (by rw [show (11 : Int32) = zb_n 11 from rfl, zb_n_le (by omega) (by omega)]; omega), sp, Option.bind_some, if_pos ok, zb_Lt_like hi11 hS h, Option.bind_some]
      simp only
      rw [zb_JS_length hi11 hS, Option.bind_some, hd]
      simp only [zb_wgo]
      by_cases q : zb_lk t n a (zb_ws.getD i []) = (zb_ws.getD i []).length
      · rw [if_pos q, if_pos (by rw [q])]
        simp only [ss_let]
        rw [h4, zb_n_add, q, zb_n_i i]
      · rw [if_neg q, if_neg (by rw [zb_n_eq (by omega) (by omega)]; exact q), h4, zb_n_add]
        have mx : F_JM_max (zb_n far) (zb_n (a + zb_lk t n a (zb_ws.getD i []))) s = some (zb_n (max far (a + zb_lk t n a (zb_ws.getD i [])))) := by
          unfold F_JM_max
          by_cases u : far < a + zb_lk t n a (zb_ws.getD i [])
          · rw [if_pos (by rw [zb_n_lt (by omega) (by omega)]; exact u)]; congr 2; omega
          · rw [if_neg (by rw [zb_n_lt (by omega) (by omega)]; exact u)]; congr 2; omega
        rw [mx, Option.bind_some]
        simp only [ss_let]
        rw [show zb_n i + (1 : Int32) = zb_n (i + 1) from zb_n_add i 1]
        exact ih (i + 1) f _ (by omega) (by omega) (by omega)
  unfold F_Lt_word zb_wd
  simp only [ss_let]
  rw [h4]
  exact go 11 0 ss_F a (by omega) (by unfold ss_F; omega) (by omega)
end WD
