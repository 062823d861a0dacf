/-! trucks that are the same, and charged otherwise -/
section LEN
variable {t : Nat → Int32} {n a : Nat}
theorem zb_sp_len {f : Nat → zb_CR} (ha : a ≤ n) (hf : ∀ b, b ≤ n → (f b).2.2.2.2.2.length ≤ 140) : (zb_sp t n f a).2.2.2.2.2.length ≤ 140 := by
  unfold zb_sp
  by_cases q : zb_nc t n a = zb_n 32
  · have := zb_nc_lt (by omega) q
    rw [if_pos q]; exact hf _ (by omega)
  · rw [if_neg q]; exact Nat.zero_le _
theorem zb_nIn_len {k : Nat} : (zb_nIn t n k a).2.2.2.2.2.length ≤ 140 := by
  unfold zb_nIn
  split <;> exact Nat.zero_le _
theorem zb_g2_len {g : Nat} (ha : a ≤ n) : (zb_g2 t n g a).2.2.2.2.2.length ≤ 140 := by
  unfold zb_g2
  refine zb_sp_len ha (fun b hb => ?_)
  split <;> exact Nat.zero_le _
theorem zb_cl_len (hn : n ≤ 140) (ha : a ≤ n) : (zb_cl t n a).2.2.2.2.2.length ≤ 140 := by
  obtain ⟨w1, w2, w3, w4⟩ := zb_wd_rg (t := t) (n := n) (a := a) ha
  unfold zb_cl
  generalize zb_wd t n a = w at *
  have X : ∀ tag : Nat, (zb_xp t n tag w.2).2.2.2.2.2.length ≤ 140 := by
    intro tag
    unfold zb_xp
    refine zb_sp_len w4 (fun b hb => ?_)
    have g1 : ∀ b, b ≤ n → zb_gp n b (zb_mo t n 38 100000 (zb_fac t n 5) b) := fun b hb => (zb_mo_gp (by omega) (zb_fac_gp (t := t) hn 5) hb hn).1
    have g := (zb_mo_gp (t := t) (sign := 124) (step := 110000) (a := b) (by omega) g1 hb hn).1
    have e1 := g.2.2.1
    have e2 := g.2.1
    show (zb_exp t n b).2.2.length ≤ 140
    exact Nat.le_trans (Nat.le_trans (Nat.le_add_left _ _) e1) (Nat.le_trans e2 hn)
  unfold zb_bw
  split
  · exact Nat.zero_le _
  split
  · unfold zb_good
    refine zb_sp_len w4 (fun b hb => ?_)
    by_cases q : zb_dg (zb_nc t n b) = true
    · have hlt := zb_dg_lt q
      rw [if_pos q]
      by_cases q2 : zb_di1 t n b = 1 ∧ zb_dg (zb_nc t n (b + 1)) = true
      · have hlt2 := zb_dg_lt q2.2
        rw [if_pos q2]; exact zb_g2_len (by omega)
      · rw [if_neg q2]; exact zb_g2_len (by omega)
    · rw [if_neg q]; exact Nat.zero_le _
  split
  · exact Nat.zero_le _
  split
  · exact Nat.zero_le _
  split
  · unfold zb_most
    refine zb_sp_len w4 (fun b hb => ?_)
    by_cases q : zb_dg (zb_nc t n b) = true
    · have hlt := zb_dg_lt q
      rw [if_pos q]
      exact zb_sp_len (by omega) (fun c hc => zb_nIn_len)
    · rw [if_neg q]; exact Nat.zero_le _
  split
  · exact X 1
  split
  · exact X 2
  · exact zb_sp_len w4 (fun c hc => zb_nIn_len)
theorem zb_cls_len (hn : n ≤ 140) : ∀ (k a : Nat), a ≤ n → (zb_cls t n k a).1 = true → ∀ e, e ∈ (zb_cls t n k a).2.2 → e.2.2.2.length ≤ 140 := by
  intro k
  induction k with
  | zero => intro a _ h; cases h
  | succ k ih =>
    intro a ha
    simp only [zb_cls]
    by_cases w : (zb_cl t n a).1 = true
    · have c2 := (zb_cl_ok hn ha w).2
      have c1 := zb_cl_len (t := t) hn ha
      rw [if_pos w]
      by_cases q : (zb_cl t n a).2.1 = n
      · rw [if_pos q]; intro _ e he; simp at he; rw [he]; exact c1
      · rw [if_neg q]
        split
        · intro z; cases z
        · split
          · next q2 =>
              have hlt := zb_nc_lt (by omega) q2
              intro z e he
              simp only [List.mem_cons] at he
              rcases he with rfl | he
              · exact c1
              · exact ih _ (by omega) z e he
          · intro z; cases z
    · rw [if_neg w]; intro z; cases z
end LEN
def zb_gL (L : List Int32) : Prop := (L = [] ∨ zb_vd 13 L) ∧ L.length ≤ 140
theorem zb_lst_gL {tag : Nat} (ht : 1 ≤ tag) : ∀ (l : List zb_EF) (d : List Int32), (∀ e, e ∈ l → zb_eok e ∧ e.2.2.2.length ≤ 140) → zb_gL d → zb_gL (zb_lst tag l d)
  | [], _, _, hd => hd
  | e :: l, d, h, hd => by
    simp only [zb_lst]
    refine zb_lst_gL ht l _ (fun x hx => h x (List.mem_cons_of_mem _ hx)) ?_
    obtain ⟨h1, h2⟩ := h e List.mem_cons_self
    by_cases q : e.1 = tag
    · rw [if_pos q]
      refine ⟨Or.inr ?_, h2⟩
      rcases h1 with h1 | h1
      · omega
      · exact h1.2
    · rw [if_neg q]; exact hd
theorem zb_L1_gL {K : Nat} {LO LD : Nat → Int} {LE : Nat → List zb_EF} {s : sv_S} (h : zb_LM K LO LD LE s) {tag : Nat} (ht : 1 ≤ tag) {x : Int} (hx : x < K) : zb_gL (zb_L1 LE tag x) := by
  unfold zb_L1
  by_cases q : x < 0
  · rw [if_pos q]; exact ⟨Or.inl rfl, Nat.zero_le _⟩
  · rw [if_neg q]
    refine zb_lst_gL ht _ _ (fun e he => ⟨zb_LM_ok h (by omega) e he, ?_⟩) ⟨Or.inl rfl, Nat.zero_le _⟩
    obtain ⟨h1, h2, h3, n, h4, h5, h6, h7⟩ := h.2.2 x.toNat (by omega)
    rw [← h7] at he
    exact zb_cls_len h4 10 0 (by omega) h6 e he
/-- only seven facts count -/
theorem zb_hd_congr {F G : Nat → Int32} {L : List Int32} {d : Bool} (hL : zb_gL L) (hF : ∀ j, j < 7 → F j = G j) (h5 : (F 5).toInt = 0 ∨ (F 5).toInt = 1) (h6 : (F 6).toInt = 0 ∨ (F 6).toInt = 1) : zb_hd F L d = zb_hd G L d := by
  have hN : ss_N (fun _ : Nat => L.length) 300 = L.length := rfl
  have s0 : sv_S := ((fun c k => if c = 157 then F k else L.getD k 0), (fun _ _ => 0), (fun _ _ => 0), (fun _ => L.length), 0, 0)
  have e1 := zb_judge (F := F) (L := L) (a0 := 300) (d := d) (s := ((fun c k => if c = 157 then F k else L.getD k 0), (fun _ _ => 0), (fun _ _ => 0), (fun _ => L.length), 0, 0)) hN hL.2 (fun i hi => rfl) hL.1 (fun j hj => rfl) h5 h6
  have e2 := zb_judge (F := G) (L := L) (a0 := 300) (d := d) (s := ((fun c k => if c = 157 then F k else L.getD k 0), (fun _ _ => 0), (fun _ _ => 0), (fun _ => L.length), 0, 0)) hN hL.2 (fun i hi => rfl) hL.1 (fun j hj => hF j hj) (by rw [← hF 5 (by omega)]; exact h5) (by rw [← hF 6 (by omega)]; exact h6)
  rw [e1] at e2
  have e3 := Option.some.inj e2
  revert e3
  cases zb_hd F L d <;> cases zb_hd G L d <;> decide
/-- the steps of a law in force, or of none -/
theorem zb_ce_st {K : Nat} {LO LD : Nat → Int} {LE : Nat → List zb_EF} {s : sv_S} (h : zb_LX0 K LO LD LE s) {x : Int} (hx : x < K) {tag : Nat} (ht : tag = 1 ∨ tag = 2) : ∃ w, ss_LR (zb_ce x) (3 + tag) = some w ∧ ss_ok2 s w 20 = true ∧ ss_N s.2.2.2.1 w = (zb_L1 LE tag x).length ∧ ∀ i, i < (zb_L1 LE tag x).length → s.1 w i = (zb_L1 LE tag x).getD i 0 := by
  unfold zb_ce zb_L1
  by_cases q : x < 0
  · refine ⟨85 + tag, ?_, ?_, ?_, fun i hi => by rw [if_pos q] at hi; exact absurd hi (by simp)⟩
    · rw [if_pos q]; rcases ht with rfl | rfl <;> rfl
    · unfold ss_ok2; rw [decide_eq_true_eq]; rcases ht with rfl | rfl <;> exact ⟨rfl, by omega, by omega⟩
    · rw [if_pos q]; rcases ht with rfl | rfl <;> rfl
  · obtain ⟨_, _, b2, b3, b4, b5, b6, b7, b8, b9, c1, c2⟩ := h.2.2.2.2 x.toNat (by omega)
    refine ⟨244 + tag + 4 * x.toNat, ?_, ?_, ?_, fun i hi => ?_⟩
    · rw [if_neg q]; unfold ss_LR; rw [if_neg (by omega), if_neg (by omega), if_pos (by omega)]; congr 1; omega
    · unfold ss_ok2 ss_K; rw [decide_eq_true_eq, if_neg (by omega), if_neg (by omega), h.2.2.1]; omega
    · unfold ss_N; rw [if_neg (by omega), if_neg (by omega), if_neg q]
      rcases ht with rfl | rfl
      · exact b8
      · exact c1
    · rw [if_neg q] at hi ⊢
      rcases ht with rfl | rfl
      · exact b9 i hi
      · exact c2 i hi
theorem zb_s157 {t : sv_S} {k c j : Nat} {v : Int32} (h : c ≠ 157) : (ss_setI t 157 k v).1 c j = t.1 c j := zb_set_ne (fun z => h z.1)
theorem zb_s202 {t : sv_S} {k c j : Nat} {v : Int32} (h : c ≠ 202) : (ss_setI t 202 k v).1 c j = t.1 c j := zb_set_ne (fun z => h z.1)
theorem zb_one1 {s : sv_S} : F_Tr_oneIf (1 : Int32) s = some (1 : Int32) := by unfold F_Tr_oneIf; rw [if_neg (by decide)]
theorem zb_one0 {s : sv_S} : F_Tr_oneIf (0 : Int32) s = some (0 : Int32) := by unfold F_Tr_oneIf; rw [if_pos rfl]
theorem zb_abs {x : Int} {s : sv_S} (h1 : -2147483647 ≤ x) (h2 : x ≤ 2147483647) : F_JM_abs (zb_i x) s = some (zb_i (if 0 ≤ x then x else -x)) := by
  unfold F_JM_abs
  by_cases q : 0 ≤ x
  · rw [if_pos (zb_ge0 q h2), if_pos q]
  · rw [if_neg (by rw [zb_sg2 (by omega) h2]; exact q), if_neg q, zb_i_neg]
/-- later day; the facts of two trucks -/
def zb_lt (TK : Nat → Nat → Int) (a b : Nat) : Int := max (TK a 4) (TK b 4)
def zb_fa (K : Nat) (LO LD : Nat → Int) (LE : Nat → List zb_EF) (R TK : Nat → Nat → Int) (a b j : Nat) : Int :=
  if j = 0 then TK a 1 else if j = 1 then zb_v K LO LD LE (R (TK a 0).toNat 2) (zb_lt TK a b) (20 + (TK a 1).toNat) else if j = 2 then R (TK a 0).toNat 2 else if j = 3 then TK a 2 else if j = 4 then (if 0 ≤ TK a 4 - TK b 4 then TK a 4 - TK b 4 else -(TK a 4 - TK b 4)) else if j = 5 then (if R (TK a 0).toNat 1 = 4 ∨ R (TK b 0).toNat 1 = 4 then 1 else 0) else (if R (TK a 0).toNat 2 = R (TK b 0).toNat 2 then 1 else 0)
def zb_cl1 (K : Nat) (LO LD : Nat → Int) (LE : Nat → List zb_EF) (TK : Nat → Nat → Int) (a b tag : Nat) : List Int32 := zb_L1 LE tag (zb_lo LO LD (-1) (zb_lt TK a b) K)
abbrev zb_lik (R TK : Nat → Nat → Int) (a b : Nat) : Prop := TK a 1 = TK b 1 ∧ R (TK a 0).toNat 3 = R (TK b 0).toNat 3 ∧ R (TK a 0).toNat 4 = R (TK b 0).toNat 4
def zb_hs (K : Nat) (LO LD : Nat → Int) (LE : Nat → List zb_EF) (R TK : Nat → Nat → Int) (a b : Nat) : Bool := zb_hd (fun j => zb_i (zb_fa K LO LD LE R TK a b j)) (zb_cl1 K LO LD LE TK a b 1) true
def zb_he (K : Nat) (LO LD : Nat → Int) (LE : Nat → List zb_EF) (R TK : Nat → Nat → Int) (a b : Nat) : Bool := zb_hd (fun j => zb_i (zb_fa K LO LD LE R TK a b j)) (zb_cl1 K LO LD LE TK a b 2) false
def zb_sam (K : Nat) (LO LD : Nat → Int) (LE : Nat → List zb_EF) (R TK : Nat → Nat → Int) (a b : Nat) : Bool := decide (zb_lik R TK a b ∧ zb_hs K LO LD LE R TK a b = true)
def zb_unl (K : Nat) (LO LD : Nat → Int) (LE : Nat → List zb_EF) (R TK : Nat → Nat → Int) (a b : Nat) : Bool := decide (zb_lik R TK a b ∧ zb_hs K LO LD LE R TK a b = true ∧ TK a 3 * TK b 2 ≠ TK b 3 * TK a 2 ∧ zb_he K LO LD LE R TK a b = false)
theorem zb_fa5 {K : Nat} {LO LD : Nat → Int} {LE : Nat → List zb_EF} {R TK : Nat → Nat → Int} {a b : Nat} : (zb_i (zb_fa K LO LD LE R TK a b 5)).toInt = 0 ∨ (zb_i (zb_fa K LO LD LE R TK a b 5)).toInt = 1 := by
  have : zb_fa K LO LD LE R TK a b 5 = if R (TK a 0).toNat 1 = 4 ∨ R (TK b 0).toNat 1 = 4 then 1 else 0 := rfl
  rw [this]
  split
  · exact Or.inr (by decide)
  · exact Or.inl (by decide)
theorem zb_fa6 {K : Nat} {LO LD : Nat → Int} {LE : Nat → List zb_EF} {R TK : Nat → Nat → Int} {a b : Nat} : (zb_i (zb_fa K LO LD LE R TK a b 6)).toInt = 0 ∨ (zb_i (zb_fa K LO LD LE R TK a b 6)).toInt = 1 := by
  have : zb_fa K LO LD LE R TK a b 6 = if R (TK a 0).toNat 2 = R (TK b 0).toNat 2 then 1 else 0 := rfl
  rw [this]
  split
  · exact Or.inr (by decide)
  · exact Or.inl (by decide)
theorem zb_seven {P : Nat → Prop} (h0 : P 0) (h1 : P 1) (h2 : P 2) (h3 : P 3) (h4 : P 4) (h5 : P 5) (h6 : P 6) : ∀ j, j < 7 → P j := by
  intro j hj
  have : j = 0 ∨ j = 1 ∨ j = 2 ∨ j = 3 ∨ j = 4 ∨ j = 5 ∨ j = 6 := by omega
  rcases this with rfl | rfl | rfl | rfl | rfl | rfl | rfl
  · exact h0
  · exact h1
  · exact h2
  · exact h3
  · exact h4
  · exact h5
  · exact h6
section UNL
variable {N K td Q T W Z : Nat} {A B O ZK : Nat → Nat} {M LO LD : Nat → Int} {LE : Nat → List zb_EF} {R TK WK : Nat → Nat → Int} {s : sv_S}
variable {x1 x2 x3 : Int32} {a b : Nat}
theorem zb_lt_rg (hW : zb_MW N A B M O K LO LD LE td Q R T TK W WK Z ZK) (ha : a < T) (hb : b < T) : 0 ≤ zb_lt TK a b ∧ zb_lt TK a b ≤ 9999 := by
  have td9 := hW.1
  obtain ⟨_, _, _, _, a5⟩ := hW.2.2.2.2.1 a ha
  obtain ⟨_, _, _, _, b5⟩ := hW.2.2.2.2.1 b hb
  unfold zb_lt; omega
theorem zb_gather (h : zb_J1 N A B M O K LO LD LE td Q R T TK W WK Z ZK s) (ha : a < T) (hb : b < T) : zb_W (F_Tr_gatherFacts (zb_n a) (zb_n b) s) (fun u => zb_J1 N A B M O K LO LD LE td Q R T TK W WK Z ZK u ∧ zb_fx [81003, 157] s u ∧ ∀ j, j < 7 → u.1 157 j = zb_i (zb_fa K LO LD LE R TK a b j)) := by
  obtain ⟨hW, hM, hX, hO, hB⟩ := id h
  have hQ := hW.2.1
  have h80 := hW.2.2.2.1
  have td9 := hW.1
  obtain ⟨ea, ra⟩ := zb_trk hW hX ha
  obtain ⟨eb, rb⟩ := zb_trk hW hX hb
  obtain ⟨a1, a2, a3, a4, a5⟩ := hW.2.2.2.2.1 a ha
  obtain ⟨b1, b2, b3, b4, b5⟩ := hW.2.2.2.2.1 b hb
  obtain ⟨m1, m2, _⟩ := hW.2.2.1 _ ra
  obtain ⟨n1, n2, _⟩ := hW.2.2.1 _ rb
  have ia : sv_ib (zb_n a) 80 = true := by rw [zb_ib_n (by omega)]; omega
  have ib : sv_ib (zb_n b) 80 = true := by rw [zb_ib_n (by omega)]; omega
  have rowa := hX.2.2.2.2.2.1.2 a ha
  have rowb := hX.2.2.2.2.2.1.2 b hb
  have lr := zb_lt_rg hW ha hb
  have s7 : ∀ j : Nat, j < 7 → sv_ib (zb_n j) 7 = true := fun j hj => by rw [zb_ib_n (by omega)]; exact hj
  have j7 : ∀ j : Nat, j < 7 → (zb_n j).toNatClampNeg = j := fun j hj => zb_n_ix (by omega)
  unfold F_Tr_gatherFacts
  rw [ea]
  refine zb_Wbind (zb_Wsome (zb_Wpos (zb_ok91 (by omega)) ?_))
  rw [eb]
  refine zb_Wbind (zb_Wsome (zb_Wpos (zb_ok91 (by omega)) (zb_Wpos ia (zb_Wpos ib ?_))))
  rw [zb_n_ix (show a ≤ 2147483647 by omega), zb_n_ix (show b ≤ 2147483647 by omega), show s.1 156 a = zb_i (TK a 4) from rowa 4 (by omega), show s.1 156 b = zb_i (TK b 4) from rowb 4 (by omega), zb_max (by omega) (by omega) (by omega) (by omega)]
  refine zb_Wbind (zb_Wsome (zb_Wpos ia (zb_Wpos (s7 0 (by omega)) (zb_Wlet (zb_Wpos ia ?_)))))
  have f6 : zb_fr [157] s (ss_setI s 157 (0 : Int32).toNatClampNeg (s.1 153 a)) := zb_fr_set (zb_fr_refl _ _) rfl
  have X6 := zb_MX_fr hQ hX f6 (by decide) (by decide)
  rw [zb_s157 (c := 91 + (TK a 0).toNat) (by omega), zb_s157 (c := 153) (by omega), zb_fld hX ra (f := 2) (by omega) (by omega), show s.1 153 a = zb_i (TK a 1) from rowa 1 (by omega)]
  rw [show s.1 153 a = zb_i (TK a 1) from rowa 1 (by omega)] at f6 X6
  rw [show (20 : Int32) + zb_i (TK a 1) = zb_n (20 + (TK a 1).toNat) by rw [zb_in_n a2.1, show (20 : Int32) = zb_n 20 from rfl, zb_n_add]]
  refine zb_Wbind2 (zb_value_X hQ X6 (o := R (TK a 0).toNat 2) (d := max (TK a 4) (TK b 4)) (w := 20 + (TK a 1).toNat) (by omega) m2.2 (by omega) (by omega) (by omega)) (fun r hr => ?_)
  obtain ⟨r1, r2, r3⟩ := hr
  rw [r1]
  have e157 : r.2.1 157 0 = zb_i (TK a 1) := (r3.1 157 0 rfl).trans zb_set_eq
  refine zb_Wpos (s7 1 (by omega)) (zb_Wlet (zb_Wpos (s7 2 (by omega)) (zb_Wlet (zb_Wpos ia (zb_Wpos (s7 3 (by omega)) (zb_Wlet (zb_Wpos ia (zb_Wpos ib ?_))))))))
  have k1 : (1 : Int32).toNatClampNeg = 1 := rfl
  have k2 : (2 : Int32).toNatClampNeg = 2 := rfl
  have k3 : (3 : Int32).toNatClampNeg = 3 := rfl
  have k4 : (4 : Int32).toNatClampNeg = 4 := rfl
  have k5 : (5 : Int32).toNatClampNeg = 5 := rfl
  have k6 : (6 : Int32).toNatClampNeg = 6 := rfl
  have na : 91 + (TK a 0).toNat ≠ 157 := by omega
  have nb : 91 + (TK b 0).toNat ≠ 157 := by omega
  have rowa2 := r2.2.2.2.2.2.1.2 a ha
  have rowb2 := r2.2.2.2.2.2.1.2 b hb
  have q156a : r.2.1 156 a = zb_i (TK a 4) := rowa2 4 (by omega)
  have q156b : r.2.1 156 b = zb_i (TK b 4) := rowb2 4 (by omega)
  have q154a : r.2.1 154 a = zb_i (TK a 2) := rowa2 2 (by omega)
  have fa2 := zb_fld r2 ra (f := 2) (by omega) (by omega)
  have fb2 := zb_fld r2 rb (f := 2) (by omega) (by omega)
  have fa1 := zb_fld r2 ra (f := 1) (by omega) (by omega)
  have fb1 := zb_fld r2 rb (f := 1) (by omega) (by omega)
  simp only [k1, k2, k3, k4, zb_s157 na, zb_s157 nb, zb_s157 (show (154 : Nat) ≠ 157 by omega), zb_s157 (show (156 : Nat) ≠ 157 by omega), q156a, q156b, q154a, fa2, fa1, fb1, zb_i_sub, zb_abs (show -2147483647 ≤ TK a 4 - TK b 4 by omega) (show TK a 4 - TK b 4 ≤ 2147483647 by omega)]
  refine zb_Wbind (zb_Wsome (zb_Wpos (s7 4 (by omega)) (zb_Wlet ?_)))
  generalize hs12 : ss_setI (ss_setI (ss_setI (ss_setI r.2 157 1 (zb_i (zb_v K LO LD LE (R (TK a 0).toNat 2) (max (TK a 4) (TK b 4)) (20 + (TK a 1).toNat)))) 157 2 (zb_i (R (TK a 0).toNat 2))) 157 3 (zb_i (TK a 2))) 157 4 (zb_i (if 0 ≤ TK a 4 - TK b 4 then TK a 4 - TK b 4 else -(TK a 4 - TK b 4))) = s12
  have f12 : zb_fr [157] r.2 s12 := by rw [← hs12]; exact zb_fr_set (zb_fr_set (zb_fr_set (zb_fr_set (zb_fr_refl _ _) rfl) rfl) rfl) rfl
  have g0 : s12.1 157 0 = zb_i (TK a 1) := by rw [← hs12, zb_set_ne (by omega), zb_set_ne (by omega), zb_set_ne (by omega), zb_set_ne (by omega)]; exact e157
  have g1 : s12.1 157 1 = zb_i (zb_v K LO LD LE (R (TK a 0).toNat 2) (max (TK a 4) (TK b 4)) (20 + (TK a 1).toNat)) := by rw [← hs12, zb_set_ne (by omega), zb_set_ne (by omega), zb_set_ne (by omega), zb_set_eq]
  have g2 : s12.1 157 2 = zb_i (R (TK a 0).toNat 2) := by rw [← hs12, zb_set_ne (by omega), zb_set_ne (by omega), zb_set_eq]
  have g3 : s12.1 157 3 = zb_i (TK a 2) := by rw [← hs12, zb_set_ne (by omega), zb_set_eq]
  have g4 : s12.1 157 4 = zb_i (if 0 ≤ TK a 4 - TK b 4 then TK a 4 - TK b 4 else -(TK a 4 - TK b 4)) := by rw [← hs12, zb_set_eq]
  have c91 : ∀ r' j : Nat, r' < 60 → s12.1 (91 + r') j = r.2.1 (91 + r') j := fun r' j h => f12.1 _ _ (by rw [zb_rg91 h]; rfl)
  rw [c91 _ 1 (by omega), c91 _ 1 (by omega), fa1, fb1]
  -- the end
  have fin : ∀ v5 v6 : Int, v5 = (if R (TK a 0).toNat 1 = 4 ∨ R (TK b 0).toNat 1 = 4 then 1 else 0) → v6 = (if R (TK a 0).toNat 2 = R (TK b 0).toNat 2 then 1 else 0) → zb_W (some (ss_setI (ss_setI s12 157 5 (zb_i v5)) 157 6 (zb_i v6))) (fun u => zb_J1 N A B M O K LO LD LE td Q R T TK W WK Z ZK u ∧ zb_fx [81003, 157] s u ∧ ∀ j, j < 7 → u.1 157 j = zb_i (zb_fa K LO LD LE R TK a b j)) := by
    intro v5 v6 h5 h6
    have fe : zb_fr [157] r.2 (ss_setI (ss_setI s12 157 5 (zb_i v5)) 157 6 (zb_i v6)) := zb_fr_set (zb_fr_set f12 rfl) rfl
    have Xe := zb_MX_fr hQ r2 fe (by decide) (by decide)
    have ff : zb_fx [81003, 157] s (ss_setI (ss_setI s12 157 5 (zb_i v5)) 157 6 (zb_i v6)) := zb_fx_trans (zb_fx_trans (zb_fr_fx (zb_fr_mono f6 (by decide))) (zb_fx_mono r3 (by decide))) (zb_fr_fx (zb_fr_mono fe (by decide)))
    refine zb_Wsome ⟨zb_J_X h Xe ff (by decide), ff, ?_⟩
    refine zb_seven ?_ ?_ ?_ ?_ ?_ ?_ ?_
    · rw [zb_set_ne (by omega), zb_set_ne (by omega)]; exact g0
    · rw [zb_set_ne (by omega), zb_set_ne (by omega)]; exact g1
    · rw [zb_set_ne (by omega), zb_set_ne (by omega)]; exact g2
    · rw [zb_set_ne (by omega), zb_set_ne (by omega)]; exact g3
    · rw [zb_set_ne (by omega), zb_set_ne (by omega)]; exact g4
    · rw [zb_set_ne (by omega), zb_set_eq, h5]; rfl
    · rw [zb_set_eq, h6]; rfl
  have b141 : ∀ v5 : Nat, v5 ≤ 1 → (v5 : Int) = (if R (TK a 0).toNat 1 = 4 ∨ R (TK b 0).toNat 1 = 4 then 1 else 0) → zb_W (F_Tr_gatherFacts_b141 (91 + (TK a 0).toNat) (91 + (TK b 0).toNat) (5 : Int32) (zb_n v5) s12) (fun u => zb_J1 N A B M O K LO LD LE td Q R T TK W WK Z ZK u ∧ zb_fx [81003, 157] s u ∧ ∀ j, j < 7 → u.1 157 j = zb_i (zb_fa K LO LD LE R TK a b j)) := by
    intro v5 hv h5
    unfold F_Tr_gatherFacts_b141
    have e1 : F_Tr_oneIf (zb_n v5) s12 = some (zb_i v5) := by
      have : v5 = 0 ∨ v5 = 1 := by omega
      rcases this with rfl | rfl
      · exact zb_one0
      · exact zb_one1
    rw [e1]
    refine zb_Wbind (zb_Wsome (zb_Wpos (s7 5 (by omega)) (zb_Wlet ?_)))
    rw [k5, zb_s157 na, zb_s157 nb, c91 _ 2 (by omega), c91 _ 2 (by omega), fa2, fb2]
    simp only [zb_i_eq (show -2147483648 ≤ R (TK a 0).toNat 2 by omega) (show R (TK a 0).toNat 2 ≤ 2147483647 by omega) (show -2147483648 ≤ R (TK b 0).toNat 2 by omega) (show R (TK b 0).toNat 2 ≤ 2147483647 by omega)]
    refine zb_Wif (fun w => ?_) (fun w => ?_)
    · rw [zb_one1]
      refine zb_Wbind (zb_Wsome (zb_Wpos (s7 6 (by omega)) (zb_Wlet ?_)))
      rw [k6]
      exact fin v5 1 h5 (by rw [if_pos w])
    · rw [zb_one0]
      refine zb_Wbind (zb_Wsome (zb_Wpos (s7 6 (by omega)) (zb_Wlet ?_)))
      rw [k6]
      exact fin v5 0 h5 (by rw [if_neg w])
  rw [show (4 : Int32) = zb_i 4 from zb_n_i 4]
  simp only [zb_i_eq (show -2147483648 ≤ R (TK a 0).toNat 1 by omega) (show R (TK a 0).toNat 1 ≤ 2147483647 by omega) (show -2147483648 ≤ (4 : Int) by omega) (show (4 : Int) ≤ 2147483647 by omega), zb_i_eq (show -2147483648 ≤ R (TK b 0).toNat 1 by omega) (show R (TK b 0).toNat 1 ≤ 2147483647 by omega) (show -2147483648 ≤ (4 : Int) by omega) (show (4 : Int) ≤ 2147483647 by omega)]
  unfold F_Tr_gatherFacts_b136
  refine zb_Wif (fun w => b141 1 (by omega) (by rw [if_pos (Or.inl w)]; rfl)) (fun w => zb_Wif (fun w2 => b141 1 (by omega) (by rw [if_pos (Or.inr w2)]; rfl)) (fun w2 => b141 0 (by omega) (by rw [if_neg (by rintro (z | z); exact w z; exact w2 z)]; rfl)))
theorem zb_courtsLaw (h : zb_J1 N A B M O K LO LD LE td Q R T TK W WK Z ZK s) (ha : a < T) (hb : b < T) : zb_W (F_Tr_courtsLaw (zb_n a) (zb_n b) s) (fun r => r.1 = zb_ce (zb_lo LO LD (-1) (zb_lt TK a b) K) ∧ zb_J1 N A B M O K LO LD LE td Q R T TK W WK Z ZK r.2 ∧ zb_fx [81003] s r.2) := by
  obtain ⟨hW, hM, hX, hO, hB⟩ := id h
  have hQ := hW.2.1
  have h80 := hW.2.2.2.1
  have td9 := hW.1
  obtain ⟨a1, a2, a3, a4, a5⟩ := hW.2.2.2.2.1 a ha
  obtain ⟨b1, b2, b3, b4, b5⟩ := hW.2.2.2.2.1 b hb
  have ia : sv_ib (zb_n a) 80 = true := by rw [zb_ib_n (by omega)]; omega
  have ib : sv_ib (zb_n b) 80 = true := by rw [zb_ib_n (by omega)]; omega
  have rowa := hX.2.2.2.2.2.1.2 a ha
  have rowb := hX.2.2.2.2.2.1.2 b hb
  have lr := zb_lt_rg hW ha hb
  unfold F_Tr_courtsLaw
  refine zb_Wpos ia (zb_Wpos ib ?_)
  rw [zb_n_ix (show a ≤ 2147483647 by omega), zb_n_ix (show b ≤ 2147483647 by omega), show s.1 156 a = zb_i (TK a 4) from rowa 4 (by omega), show s.1 156 b = zb_i (TK b 4) from rowb 4 (by omega), zb_max (by omega) (by omega) (by omega) (by omega)]
  refine zb_Wbind (zb_Wsome ?_)
  rw [zb_m1]
  refine zb_Wbind2 (zb_inForce hX.2.1 (o := -1) (d := max (TK a 4) (TK b 4)) (by omega) (by omega) (by omega) (by omega)) (fun r hr => ?_)
  obtain ⟨r1, r2, r3⟩ := hr
  have g := zb_lo_rg (LO := LO) (LD := LD) (o := -1) (d := max (TK a 4) (TK b 4)) K
  have X2 := zb_J_X h (zb_MX_rest hQ hX r3 r2 (by decide) (by decide)) r3 (by decide)
  rw [r1]
  exact zb_Wpos (zb_ce_ok r2.1.2.2.1 g.2) (zb_Wsome ⟨rfl, X2, r3⟩)
theorem zb_judge_X (h : zb_J1 N A B M O K LO LD LE td Q R T TK W WK Z ZK s) (ha : a < T) (hb : b < T) {tag : Nat} (ht : tag = 1 ∨ tag = 2) {d : Bool} (hF : ∀ j, j < 7 → s.1 157 j = zb_i (zb_fa K LO LD LE R TK a b j)) : ∃ w, ss_LR (zb_ce (zb_lo LO LD (-1) (zb_lt TK a b) K)) (3 + tag) = some w ∧ ss_ok2 s w 20 = true ∧ F_Lw_judge w 157 (zb_b d) s = some (zb_b (zb_hd (fun j => zb_i (zb_fa K LO LD LE R TK a b j)) (zb_cl1 K LO LD LE TK a b tag) d)) := by
  have g := zb_lo_rg (LO := LO) (LD := LD) (o := -1) (d := zb_lt TK a b) K
  obtain ⟨w, w1, w2, w3, w4⟩ := zb_ce_st h.2.2.1.2.1.1 g.2 ht
  have gl := zb_L1_gL h.2.1.2.1 (tag := tag) (by omega) g.2
  exact ⟨w, w1, w2, zb_judge w3 gl.2 w4 gl.1 hF zb_fa5 zb_fa6⟩
def zb_ZUX : List Nat := [81003, 157]
theorem zb_same_X (h : zb_J1 N A B M O K LO LD LE td Q R T TK W WK Z ZK s) (ha : a < T) (hb : b < T) : zb_W (F_Tr_areSame (zb_n a) (zb_n b) s) (fun r => r.1 = zb_b (zb_sam K LO LD LE R TK a b) ∧ zb_J1 N A B M O K LO LD LE td Q R T TK W WK Z ZK r.2 ∧ zb_fx zb_ZUX s r.2 ∧ (zb_lik R TK a b → ∀ j, j < 7 → r.2.1 157 j = zb_i (zb_fa K LO LD LE R TK a b j))) := by
  obtain ⟨hW, hM, hX, hO, hB⟩ := id h
  have hQ := hW.2.1
  have h80 := hW.2.2.2.1
  obtain ⟨ea, ra⟩ := zb_trk hW hX ha
  obtain ⟨eb, rb⟩ := zb_trk hW hX hb
  obtain ⟨a1, a2, a3, a4, a5⟩ := hW.2.2.2.2.1 a ha
  obtain ⟨b1, b2, b3, b4, b5⟩ := hW.2.2.2.2.1 b hb
  obtain ⟨_, _, m3, m4, _⟩ := hW.2.2.1 _ ra
  obtain ⟨_, _, n3, n4, _⟩ := hW.2.2.1 _ rb
  have ia : sv_ib (zb_n a) 80 = true := by rw [zb_ib_n (by omega)]; omega
  have ib : sv_ib (zb_n b) 80 = true := by rw [zb_ib_n (by omega)]; omega
  have rowa := hX.2.2.2.2.2.1.2 a ha
  have rowb := hX.2.2.2.2.2.1.2 b hb
  have no : ¬ zb_lik R TK a b → zb_W (some ((0 : Int32), s)) (fun r => r.1 = zb_b (zb_sam K LO LD LE R TK a b) ∧ zb_J1 N A B M O K LO LD LE td Q R T TK W WK Z ZK r.2 ∧ zb_fx zb_ZUX s r.2 ∧ (zb_lik R TK a b → ∀ j, j < 7 → r.2.1 157 j = zb_i (zb_fa K LO LD LE R TK a b j))) := by
    intro z
    refine zb_Wsome ⟨?_, h, zb_fx_refl _ _, fun y => absurd y z⟩
    unfold zb_sam
    rw [decide_eq_false (fun y => z y.1)]; rfl
  unfold F_Tr_areSame
  rw [ea]
  refine zb_Wbind (zb_Wsome (zb_Wpos (zb_ok91 (by omega)) ?_))
  rw [eb]
  refine zb_Wbind (zb_Wsome (zb_Wpos (zb_ok91 (by omega)) (zb_Wpos ia (zb_Wpos ib ?_))))
  rw [zb_n_ix (show a ≤ 2147483647 by omega), zb_n_ix (show b ≤ 2147483647 by omega), show s.1 153 a = zb_i (TK a 1) from rowa 1 (by omega), show s.1 153 b = zb_i (TK b 1) from rowb 1 (by omega), zb_fld hX ra (f := 3) (by omega) (by omega), zb_fld hX ra (f := 4) (by omega) (by omega), zb_fld hX rb (f := 3) (by omega) (by omega), zb_fld hX rb (f := 4) (by omega) (by omega)]
  simp only [zb_i_eq (show -2147483648 ≤ TK a 1 by omega) (show TK a 1 ≤ 2147483647 by omega) (show -2147483648 ≤ TK b 1 by omega) (show TK b 1 ≤ 2147483647 by omega), zb_i_eq (show -2147483648 ≤ R (TK a 0).toNat 3 by omega) (show R (TK a 0).toNat 3 ≤ 2147483647 by omega) (show -2147483648 ≤ R (TK b 0).toNat 3 by omega) (show R (TK b 0).toNat 3 ≤ 2147483647 by omega), zb_i_eq (show -2147483648 ≤ R (TK a 0).toNat 4 by omega) (show R (TK a 0).toNat 4 ≤ 2147483647 by omega) (show -2147483648 ≤ R (TK b 0).toNat 4 by omega) (show R (TK b 0).toNat 4 ≤ 2147483647 by omega)]
  refine zb_Wif (fun w1 => ?_) (fun w => no (fun z => w z.1))
  refine zb_Wif (fun w2 => ?_) (fun w => no (fun z => w z.2.1))
  refine zb_Wif (fun w3 => ?_) (fun w => no (fun z => w z.2.2))
  refine zb_Wbind2 (zb_gather h ha hb) (fun u hu => ?_)
  obtain ⟨u1, u2, u3⟩ := hu
  refine zb_Wbind2 (zb_courtsLaw u1 ha hb) (fun r hr => ?_)
  obtain ⟨r1, r2, r3⟩ := hr
  have g := zb_lo_rg (LO := LO) (LD := LD) (o := -1) (d := zb_lt TK a b) K
  have F7 : ∀ j, j < 7 → r.2.1 157 j = zb_i (zb_fa K LO LD LE R TK a b j) := fun j hj => (r3.1 157 j rfl).trans (u3 j hj)
  obtain ⟨w, e1, e2, e3⟩ := zb_judge_X r2 ha hb (tag := 1) (Or.inl rfl) (d := true) F7
  rw [r1]
  refine zb_Wpos (zb_ce_ok r2.2.2.1.2.1.1.2.2.1 g.2) ?_
  rw [show (4 : Nat) = 3 + 1 from rfl, e1]
  refine zb_Wbind (zb_Wsome (zb_Wpos e2 ?_))
  rw [show (1 : Int32) = zb_b true from rfl, e3]
  refine zb_Wbind (zb_Wsome (zb_Wpos zb_bl_b (zb_Wsome ⟨?_, r2, zb_fx_trans u2 (zb_fx_mono r3 (by decide)), fun _ => F7⟩)))
  show zb_b (zb_hs K LO LD LE R TK a b) = zb_b (zb_sam K LO LD LE R TK a b)
  congr 1
  unfold zb_sam
  cases e : zb_hs K LO LD LE R TK a b with
  | true => rw [decide_eq_true ⟨⟨w1, w2, w3⟩, rfl⟩]
  | false => rw [decide_eq_false (fun z => by cases z.2)]
theorem zb_unlike_X (h : zb_J1 N A B M O K LO LD LE td Q R T TK W WK Z ZK s) (ha : a < T) (hb : b < T) : zb_W (F_Tr_areUnlike (zb_n a) (zb_n b) s) (fun r => r.1 = zb_b (zb_unl K LO LD LE R TK a b) ∧ zb_J1 N A B M O K LO LD LE td Q R T TK W WK Z ZK r.2 ∧ zb_fx zb_ZUX s r.2) := by
  obtain ⟨hW, hM, hX, hO, hB⟩ := id h
  have h80 := hW.2.2.2.1
  obtain ⟨a1, a2, a3, a4, a5⟩ := hW.2.2.2.2.1 a ha
  obtain ⟨b1, b2, b3, b4, b5⟩ := hW.2.2.2.2.1 b hb
  have ia : sv_ib (zb_n a) 80 = true := by rw [zb_ib_n (by omega)]; omega
  have ib : sv_ib (zb_n b) 80 = true := by rw [zb_ib_n (by omega)]; omega
  have rowa := hX.2.2.2.2.2.1.2 a ha
  have rowb := hX.2.2.2.2.2.1.2 b hb
  have p1 := zb_mulr (x := 99999) (y := 99) a4.1 a4.2 (by omega : 0 ≤ TK b 2) b3.2
  have p2 := zb_mulr (x := 99999) (y := 99) b4.1 b4.2 (by omega : 0 ≤ TK a 2) a3.2
  unfold F_Tr_areUnlike
  refine zb_Wpos ia (zb_Wpos ib (zb_Wpos ib (zb_Wpos ia ?_)))
  rw [zb_n_ix (show a ≤ 2147483647 by omega), zb_n_ix (show b ≤ 2147483647 by omega), show s.1 155 a = zb_i (TK a 3) from rowa 3 (by omega), show s.1 155 b = zb_i (TK b 3) from rowb 3 (by omega), show s.1 154 a = zb_i (TK a 2) from rowa 2 (by omega), show s.1 154 b = zb_i (TK b 2) from rowb 2 (by omega), zb_i_mul, zb_i_mul]
  simp only [zb_i_eq (show -2147483648 ≤ TK a 3 * TK b 2 by omega) (show TK a 3 * TK b 2 ≤ 2147483647 by omega) (show -2147483648 ≤ TK b 3 * TK a 2 by omega) (show TK b 3 * TK a 2 ≤ 2147483647 by omega)]
  refine zb_Wif (fun w => zb_Wsome ⟨?_, h, zb_fx_refl _ _⟩) (fun w0 => ?_)
  · unfold zb_unl; rw [decide_eq_false (fun z => z.2.2.1 w)]; rfl
  refine zb_Wbind2 (zb_same_X h ha hb) (fun r hr => ?_)
  obtain ⟨r1, r2, r3, r4⟩ := hr
  rw [r1]
  by_cases q : zb_lik R TK a b ∧ zb_hs K LO LD LE R TK a b = true
  rotate_left
  · refine zb_Wpos ?_ (zb_Wsome ⟨?_, r2, r3⟩)
    · unfold zb_sam; exact zb_bF q
    · unfold zb_unl; rw [decide_eq_false (fun z => q ⟨z.1, z.2.1⟩)]; rfl
  refine zb_Wneg ?_ ?_
  · unfold zb_sam; exact zb_bT q
  refine zb_Wbind2 (zb_courtsLaw r2 ha hb) (fun v hv => ?_)
  obtain ⟨v1, v2, v3⟩ := hv
  have g := zb_lo_rg (LO := LO) (LD := LD) (o := -1) (d := zb_lt TK a b) K
  have F7 : ∀ j, j < 7 → v.2.1 157 j = zb_i (zb_fa K LO LD LE R TK a b j) := fun j hj => (v3.1 157 j rfl).trans (r4 q.1 j hj)
  obtain ⟨w, e1, e2, e3⟩ := zb_judge_X v2 ha hb (tag := 2) (Or.inr rfl) (d := false) F7
  rw [v1]
  refine zb_Wpos (zb_ce_ok v2.2.2.1.2.1.1.2.2.1 g.2) ?_
  rw [show (5 : Nat) = 3 + 2 from rfl, e1]
  refine zb_Wbind (zb_Wsome (zb_Wpos e2 ?_))
  rw [show (0 : Int32) = zb_b false from rfl, e3]
  have ff := zb_fx_trans r3 (zb_fx_mono v3 (L' := zb_ZUX) (by decide))
  refine zb_Wbind (zb_Wsome ?_)
  show zb_W (if zb_b (zb_he K LO LD LE R TK a b) = zb_b false then some ((1 : Int32), v.2) else some (zb_b false, v.2)) _
  cases e : zb_he K LO LD LE R TK a b with
  | true =>
    refine zb_Wneg (by decide) (zb_Wsome ⟨?_, v2, ff⟩)
    unfold zb_unl; rw [decide_eq_false (fun z => by rw [e] at z; cases z.2.2.2)]
  | false =>
    refine zb_Wpos rfl (zb_Wsome ⟨?_, v2, ff⟩)
    unfold zb_unl; rw [decide_eq_true ⟨q.1, q.2, w0, e⟩]; rfl
/-- the model's -/
def zb_ZUM : List Nat := 202 :: zb_ZL
theorem zb_ask (h : zb_J1 N A B M O K LO LD LE td Q R T TK W WK Z ZK s) (ha : a < T) (hb : b < T) : zb_W (F_Mo_ask (zb_n a) (zb_n b) s) (fun u => zb_J1 N A B M O K LO LD LE td Q R T TK W WK Z ZK u ∧ zb_fr zb_ZUM s u ∧ u.1 187 20 = zb_b (zb_hs K LO LD LE R TK a b) ∧ u.1 187 21 = zb_b (zb_he K LO LD LE R TK a b)) := by
  obtain ⟨hW, hM, hX, hO, hB⟩ := id h
  have hQ := hW.2.1
  have h80 := hW.2.2.2.1
  have td9 := hW.1
  obtain ⟨a1, a2, a3, a4, a5⟩ := hW.2.2.2.2.1 a ha
  obtain ⟨b1, b2, b3, b4, b5⟩ := hW.2.2.2.2.1 b hb
  have ra : (TK a 0).toNat < Q := by omega
  have rb : (TK b 0).toNat < Q := by omega
  obtain ⟨m1, m2, _⟩ := hW.2.2.1 _ ra
  obtain ⟨n1, n2, _⟩ := hW.2.2.1 _ rb
  have ia : sv_ib (zb_n a) 80 = true := by rw [zb_ib_n (by omega)]; omega
  have ib : sv_ib (zb_n b) 80 = true := by rw [zb_ib_n (by omega)]; omega
  have ira : sv_ib (zb_n (TK a 0).toNat) 60 = true := by rw [zb_ib_n (by omega)]; omega
  have irb : sv_ib (zb_n (TK b 0).toNat) 60 = true := by rw [zb_ib_n (by omega)]; omega
  have xa : (zb_n a).toNatClampNeg = a := zb_n_ix (by omega)
  have xb : (zb_n b).toNatClampNeg = b := zb_n_ix (by omega)
  have xra : (zb_n (TK a 0).toNat).toNatClampNeg = (TK a 0).toNat := zb_n_ix (by omega)
  have xrb : (zb_n (TK b 0).toNat).toNatClampNeg = (TK b 0).toNat := zb_n_ix (by omega)
  have lr := zb_lt_rg hW ha hb
  have rows := fun (u : sv_S) (hu : zb_MM N A B M O K LO LD LE td Q R T TK W WK Z ZK u) => hu.2.2.2.2.1.2
  have row0a : s.1 222 a = zb_n (TK a 0).toNat := by rw [← zb_in_n a1.1]; exact rows s hM a ha 0 (by omega)
  have row0b : s.1 222 b = zb_n (TK b 0).toNat := by rw [← zb_in_n b1.1]; exact rows s hM b hb 0 (by omega)
  have s7 : ∀ j : Nat, j < 7 → sv_ib (zb_n j) 7 = true := fun j hj => by rw [zb_ib_n (by omega)]; exact hj
  have k0 : (0 : Int32).toNatClampNeg = 0 := rfl
  have k1 : (1 : Int32).toNatClampNeg = 1 := rfl
  have k2 : (2 : Int32).toNatClampNeg = 2 := rfl
  have k3 : (3 : Int32).toNatClampNeg = 3 := rfl
  have k4 : (4 : Int32).toNatClampNeg = 4 := rfl
  have k5 : (5 : Int32).toNatClampNeg = 5 := rfl
  have k6 : (6 : Int32).toNatClampNeg = 6 := rfl
  -- behind the later day
  have b45 : zb_W (F_Mo_ask_b45 (zb_n a) (zb_n b) (zb_n (TK a 0).toNat) (zb_n (TK b 0).toNat) (zb_i (zb_lt TK a b)) s) (fun u => zb_J1 N A B M O K LO LD LE td Q R T TK W WK Z ZK u ∧ zb_fr zb_ZUM s u ∧ u.1 187 20 = zb_b (zb_hs K LO LD LE R TK a b) ∧ u.1 187 21 = zb_b (zb_he K LO LD LE R TK a b)) := by
    unfold F_Mo_ask_b45
    refine zb_Wpos ira ?_
    rw [xra, xa, xb, zb_fldM hM.2.2.2.1 ra (f := 2) (c := 206) (by omega) (by omega) rfl]
    refine zb_Wbind2 (zb_look hM.2.1 (o := R (TK a 0).toNat 2) (d := zb_lt TK a b) (by omega) m2.2 lr.1 lr.2) (fun r hr => ?_)
    obtain ⟨f1, sm, ex, mv, _⟩ := hr
    have M1 := zb_MM_fr hM f1 (by decide)
    have q223 : r.1 223 a = zb_n (TK a 1).toNat := by rw [← zb_in_n a2.1]; exact rows r M1 a ha 1 (by omega)
    have q224 : r.1 224 a = zb_i (TK a 2) := rows r M1 a ha 2 (by omega)
    have q226a : r.1 226 a = zb_i (TK a 4) := rows r M1 a ha 4 (by omega)
    have q226b : r.1 226 b = zb_i (TK b 4) := rows r M1 b hb 4 (by omega)
    have q206a : r.1 206 (TK a 0).toNat = zb_i (R (TK a 0).toNat 2) := zb_fldM M1.2.2.2.1 ra (f := 2) (c := 206) (by omega) (by omega) rfl
    have q206b : r.1 206 (TK b 0).toNat = zb_i (R (TK b 0).toNat 2) := zb_fldM M1.2.2.2.1 rb (f := 2) (c := 206) (by omega) (by omega) rfl
    have q205a : r.1 205 (TK a 0).toNat = zb_i (R (TK a 0).toNat 1) := zb_fldM M1.2.2.2.1 ra (f := 1) (c := 205) (by omega) (by omega) rfl
    have q205b : r.1 205 (TK b 0).toNat = zb_i (R (TK b 0).toNat 1) := zb_fldM M1.2.2.2.1 rb (f := 1) (c := 205) (by omega) (by omega) rfl
    have q199 : r.1 199 (TK a 1).toNat = zb_i (zb_v K LO LD LE (R (TK a 0).toNat 2) (zb_lt TK a b) (20 + (TK a 1).toNat)) := mv.2.2.2.1 _ (by omega)
    refine zb_Wpos ia (zb_Wpos (s7 0 (by omega)) (zb_Wlet (zb_Wpos ia ?_)))
    rw [k0, q223, zb_s202 (c := 223) (by omega), q223]
    refine zb_Wpos (by rw [zb_ib_n (by omega)]; omega) (zb_Wpos (s7 1 (by omega)) (zb_Wlet (zb_Wpos ira (zb_Wpos (s7 2 (by omega)) (zb_Wlet (zb_Wpos ia (zb_Wpos (s7 3 (by omega)) (zb_Wlet (zb_Wpos ia (zb_Wpos ib ?_))))))))))
    simp only [k1, k2, k3, zb_n_ix (show (TK a 1).toNat ≤ 2147483647 by omega), zb_s202 (show (199 : Nat) ≠ 202 by omega), zb_s202 (show (206 : Nat) ≠ 202 by omega), zb_s202 (show (224 : Nat) ≠ 202 by omega), zb_s202 (show (226 : Nat) ≠ 202 by omega), q199, q206a, q224, q226a, q226b, ia, ib, if_true]
    generalize hs7 : ss_setI (ss_setI (ss_setI (ss_setI r 202 0 (zb_n (TK a 1).toNat)) 202 1 (zb_i (zb_v K LO LD LE (R (TK a 0).toNat 2) (zb_lt TK a b) (20 + (TK a 1).toNat)))) 202 2 (zb_i (R (TK a 0).toNat 2))) 202 3 (zb_i (TK a 2)) = t7
    have f7 : zb_fr [202] r t7 := by rw [← hs7]; exact zb_fr_set (zb_fr_set (zb_fr_set (zb_fr_set (zb_fr_refl _ _) rfl) rfl) rfl) rfl
    have g0 : t7.1 202 0 = zb_i (TK a 1) := by rw [← hs7, zb_set_ne (by omega), zb_set_ne (by omega), zb_set_ne (by omega), zb_set_eq, zb_in_n a2.1]
    have g1 : t7.1 202 1 = zb_i (zb_v K LO LD LE (R (TK a 0).toNat 2) (zb_lt TK a b) (20 + (TK a 1).toNat)) := by rw [← hs7, zb_set_ne (by omega), zb_set_ne (by omega), zb_set_eq]
    have g2 : t7.1 202 2 = zb_i (R (TK a 0).toNat 2) := by rw [← hs7, zb_set_ne (by omega), zb_set_eq]
    have g3 : t7.1 202 3 = zb_i (TK a 2) := by rw [← hs7, zb_set_eq]
    have c205 : ∀ j, t7.1 205 j = r.1 205 j := fun j => f7.1 205 j rfl
    have c206 : ∀ j, t7.1 206 j = r.1 206 j := fun j => f7.1 206 j rfl
    -- the last look
    have last : ∀ (v4 v5 v6 : Int), v4 = (if 0 ≤ TK a 4 - TK b 4 then TK a 4 - TK b 4 else -(TK a 4 - TK b 4)) → v5 = (if R (TK a 0).toNat 1 = 4 ∨ R (TK b 0).toNat 1 = 4 then 1 else 0) → v6 = (if R (TK a 0).toNat 2 = R (TK b 0).toNat 2 then 1 else 0) → zb_W ((F_Mo_look (-1 : Int32) (zb_i (zb_lt TK a b)) (ss_setI (ss_setI (ss_setI t7 202 4 (zb_i v4)) 202 5 (zb_i v5)) 202 6 (zb_i v6))).bind fun r => some r) (fun u => zb_J1 N A B M O K LO LD LE td Q R T TK W WK Z ZK u ∧ zb_fr zb_ZUM s u ∧ u.1 187 20 = zb_b (zb_hs K LO LD LE R TK a b) ∧ u.1 187 21 = zb_b (zb_he K LO LD LE R TK a b)) := by
      intro v4 v5 v6 h4 h5 h6
      have fe : zb_fr [202] r (ss_setI (ss_setI (ss_setI t7 202 4 (zb_i v4)) 202 5 (zb_i v5)) 202 6 (zb_i v6)) := zb_fr_set (zb_fr_set (zb_fr_set f7 rfl) rfl) rfl
      have Me := zb_MM_fr M1 fe (by decide)
      have F7 : ∀ j, j < 7 → (ss_setI (ss_setI (ss_setI t7 202 4 (zb_i v4)) 202 5 (zb_i v5)) 202 6 (zb_i v6)).1 202 j = zb_i (zb_fa K LO LD LE R TK a b j) := by
        refine zb_seven ?_ ?_ ?_ ?_ ?_ ?_ ?_
        · rw [zb_set_ne (by omega), zb_set_ne (by omega), zb_set_ne (by omega)]; exact g0
        · rw [zb_set_ne (by omega), zb_set_ne (by omega), zb_set_ne (by omega)]; exact g1
        · rw [zb_set_ne (by omega), zb_set_ne (by omega), zb_set_ne (by omega)]; exact g2
        · rw [zb_set_ne (by omega), zb_set_ne (by omega), zb_set_ne (by omega)]; exact g3
        · rw [zb_set_ne (by omega), zb_set_ne (by omega), zb_set_eq, h4]; rfl
        · rw [zb_set_ne (by omega), zb_set_eq, h5]; rfl
        · rw [zb_set_eq, h6]; rfl
      rw [zb_m1]
      refine zb_Wbind2 (zb_look Me.2.1 (o := -1) (d := zb_lt TK a b) (by omega) (by omega) lr.1 lr.2) (fun w hw => zb_Wsome ?_)
      obtain ⟨w1, sm, ex, mv, he⟩ := hw
      obtain ⟨e1, e2⟩ := he rfl
      have fw : zb_fr zb_ZUM s w := zb_fr_trans (zb_fr_trans (zb_fr_mono f1 (by decide)) (zb_fr_mono fe (by decide))) (zb_fr_mono w1 (by decide))
      have g := zb_lo_rg (LO := LO) (LD := LD) (o := -1) (d := zb_lt TK a b) K
      have c5 := fun (F : Nat → Int32) (hF : ∀ j, j < 7 → F j = zb_i (zb_fa K LO LD LE R TK a b j)) => (show (F 5).toInt = 0 ∨ (F 5).toInt = 1 by rw [hF 5 (by omega)]; exact zb_fa5)
      have c6 := fun (F : Nat → Int32) (hF : ∀ j, j < 7 → F j = zb_i (zb_fa K LO LD LE R TK a b j)) => (show (F 6).toInt = 0 ∨ (F 6).toInt = 1 by rw [hF 6 (by omega)]; exact zb_fa6)
      refine ⟨zb_J_M h fw (by decide) (by decide), fw, ?_, ?_⟩
      · rw [mv.2.2.2.2.1, e1]
        congr 1
        exact zb_hd_congr (zb_L1_gL Me.2.1 (by omega) g.2) F7 (c5 _ F7) (c6 _ F7)
      · rw [mv.2.2.2.2.2, e2]
        congr 1
        exact zb_hd_congr (zb_L1_gL Me.2.1 (by omega) g.2) F7 (c5 _ F7) (c6 _ F7)
    have b189 : ∀ (v4 : Int) (v5 : Nat), v4 = (if 0 ≤ TK a 4 - TK b 4 then TK a 4 - TK b 4 else -(TK a 4 - TK b 4)) → (v5 : Int) = (if R (TK a 0).toNat 1 = 4 ∨ R (TK b 0).toNat 1 = 4 then 1 else 0) → zb_W (F_Mo_ask_b189 (zb_n (TK a 0).toNat) (zb_n (TK b 0).toNat) (zb_i (zb_lt TK a b)) (5 : Int32) (zb_n v5) (ss_setI t7 202 4 (zb_i v4))) (fun u => zb_J1 N A B M O K LO LD LE td Q R T TK W WK Z ZK u ∧ zb_fr zb_ZUM s u ∧ u.1 187 20 = zb_b (zb_hs K LO LD LE R TK a b) ∧ u.1 187 21 = zb_b (zb_he K LO LD LE R TK a b)) := by
      intro v4 v5 h4 h5
      unfold F_Mo_ask_b189
      refine zb_Wpos (s7 5 (by omega)) (zb_Wlet (zb_Wpos ira (zb_Wpos irb ?_)))
      rw [xra, xrb, k5, zb_n_i v5, zb_s202 (c := 206) (by omega), zb_s202 (c := 206) (by omega), zb_s202 (c := 206) (by omega), zb_s202 (c := 206) (by omega), c206, c206, q206a, q206b]
      simp only [zb_i_eq (show -2147483648 ≤ R (TK a 0).toNat 2 by omega) (show R (TK a 0).toNat 2 ≤ 2147483647 by omega) (show -2147483648 ≤ R (TK b 0).toNat 2 by omega) (show R (TK b 0).toNat 2 ≤ 2147483647 by omega)]
      refine zb_Wif (fun w => zb_Wpos (s7 6 (by omega)) (zb_Wlet ?_)) (fun w => zb_Wpos (s7 6 (by omega)) (zb_Wlet ?_))
      · exact last v4 v5 1 h4 h5 (by rw [if_pos w])
      · exact last v4 v5 0 h4 h5 (by rw [if_neg w])
    have b161 : ∀ v4 : Int, v4 = (if 0 ≤ TK a 4 - TK b 4 then TK a 4 - TK b 4 else -(TK a 4 - TK b 4)) → zb_W (F_Mo_ask_b161 (zb_n (TK a 0).toNat) (zb_n (TK b 0).toNat) (zb_i (zb_lt TK a b)) (4 : Int32) (zb_i v4) t7) (fun u => zb_J1 N A B M O K LO LD LE td Q R T TK W WK Z ZK u ∧ zb_fr zb_ZUM s u ∧ u.1 187 20 = zb_b (zb_hs K LO LD LE R TK a b) ∧ u.1 187 21 = zb_b (zb_he K LO LD LE R TK a b)) := by
      intro v4 h4
      have isb : ∀ c : Nat, c < Q → F_Mo_isBoat (zb_n c) (ss_setI t7 202 4 (zb_i v4)) = some (zb_b (decide (R c 1 = 4))) := by
        intro c hc
        obtain ⟨c1, _⟩ := hW.2.2.1 c hc
        unfold F_Mo_isBoat
        rw [if_pos (by rw [zb_ib_n (by omega)]; omega), zb_n_ix (by omega), zb_s202 (c := 205) (by omega), c205, zb_fldM M1.2.2.2.1 hc (f := 1) (c := 205) (by omega) (by omega) rfl, show (4 : Int32) = zb_i 4 from zb_n_i 4]
        simp only [zb_i_eq (show -2147483648 ≤ R c 1 by omega) (show R c 1 ≤ 2147483647 by omega) (show -2147483648 ≤ (4 : Int) by omega) (show (4 : Int) ≤ 2147483647 by omega)]
        by_cases w : R c 1 = 4
        · rw [if_pos w, decide_eq_true w]; rfl
        · rw [if_neg w, decide_eq_false w]; rfl
      unfold F_Mo_ask_b161
      refine zb_Wpos (s7 4 (by omega)) (zb_Wlet ?_)
      rw [k4, isb _ ra, isb _ rb]
      unfold F_Mo_ask_b184
      refine zb_Wbind (zb_Wsome ?_)
      by_cases w : R (TK a 0).toNat 1 = 4
      · exact zb_Wneg (zb_bT w) (b189 v4 1 h4 (by rw [if_pos (Or.inl w)]; rfl))
      refine zb_Wpos (zb_bF w) (zb_Wbind (zb_Wsome ?_))
      by_cases w2 : R (TK b 0).toNat 1 = 4
      · exact zb_Wneg (zb_bT w2) (b189 v4 1 h4 (by rw [if_pos (Or.inr w2)]; rfl))
      exact zb_Wpos (zb_bF w2) (b189 v4 0 h4 (by rw [if_neg (by rintro (z | z); exact w z; exact w2 z)]; rfl))
    rw [zb_i_sub, zb_i_sub]
    simp only [zb_i_le (show -2147483648 ≤ TK a 4 by omega) (show TK a 4 ≤ 2147483647 by omega) (show -2147483648 ≤ TK b 4 by omega) (show TK b 4 ≤ 2147483647 by omega)]
    refine zb_Wif (fun w => b161 _ ?_) (fun w => b161 _ ?_)
    · by_cases z : 0 ≤ TK a 4 - TK b 4
      · rw [if_pos z]; omega
      · rw [if_neg z]; omega
    · rw [if_pos (by omega)]
  unfold F_Mo_ask
  have q226a : s.1 226 a = zb_i (TK a 4) := rows s hM a ha 4 (by omega)
  have q226b : s.1 226 b = zb_i (TK b 4) := rows s hM b hb 4 (by omega)
  refine zb_Wpos ia (zb_Wlet (zb_Wpos ib (zb_Wlet (zb_Wpos ia (zb_Wpos ib ?_)))))
  rw [xa, xb, row0a, row0b, q226a, q226b]
  simp only [zb_i_le (show -2147483648 ≤ TK a 4 by omega) (show TK a 4 ≤ 2147483647 by omega) (show -2147483648 ≤ TK b 4 by omega) (show TK b 4 ≤ 2147483647 by omega)]
  refine zb_Wif (fun w => zb_Wpos ib ?_) (fun w => zb_Wpos ia ?_)
  · rw [show TK b 4 = zb_lt TK a b by unfold zb_lt; omega]; exact b45
  · rw [show TK a 4 = zb_lt TK a b by unfold zb_lt; omega]; exact b45
theorem zb_same_M (h : zb_J1 N A B M O K LO LD LE td Q R T TK W WK Z ZK s) (ha : a < T) (hb : b < T) : zb_W (F_Mo_areSame (zb_n a) (zb_n b) s) (fun r => r.1 = zb_b (zb_sam K LO LD LE R TK a b) ∧ zb_J1 N A B M O K LO LD LE td Q R T TK W WK Z ZK r.2 ∧ zb_fr zb_ZUM s r.2 ∧ (zb_lik R TK a b → r.2.1 187 21 = zb_b (zb_he K LO LD LE R TK a b))) := by
  obtain ⟨hW, hM, hX, hO, hB⟩ := id h
  have hQ := hW.2.1
  have h80 := hW.2.2.2.1
  obtain ⟨a1, a2, a3, a4, a5⟩ := hW.2.2.2.2.1 a ha
  obtain ⟨b1, b2, b3, b4, b5⟩ := hW.2.2.2.2.1 b hb
  have ra : (TK a 0).toNat < Q := by omega
  have rb : (TK b 0).toNat < Q := by omega
  obtain ⟨_, _, m3, m4, _⟩ := hW.2.2.1 _ ra
  obtain ⟨_, _, n3, n4, _⟩ := hW.2.2.1 _ rb
  have ia : sv_ib (zb_n a) 80 = true := by rw [zb_ib_n (by omega)]; omega
  have ib : sv_ib (zb_n b) 80 = true := by rw [zb_ib_n (by omega)]; omega
  have ira : sv_ib (zb_n (TK a 0).toNat) 60 = true := by rw [zb_ib_n (by omega)]; omega
  have irb : sv_ib (zb_n (TK b 0).toNat) 60 = true := by rw [zb_ib_n (by omega)]; omega
  have rowa := hM.2.2.2.2.1.2 a ha
  have rowb := hM.2.2.2.2.1.2 b hb
  have row0a : s.1 222 a = zb_n (TK a 0).toNat := by rw [← zb_in_n a1.1]; exact rowa 0 (by omega)
  have row0b : s.1 222 b = zb_n (TK b 0).toNat := by rw [← zb_in_n b1.1]; exact rowb 0 (by omega)
  have no : ¬ zb_lik R TK a b → zb_W (some ((0 : Int32), s)) (fun r => r.1 = zb_b (zb_sam K LO LD LE R TK a b) ∧ zb_J1 N A B M O K LO LD LE td Q R T TK W WK Z ZK r.2 ∧ zb_fr zb_ZUM s r.2 ∧ (zb_lik R TK a b → r.2.1 187 21 = zb_b (zb_he K LO LD LE R TK a b))) := by
    intro z
    refine zb_Wsome ⟨?_, h, zb_fr_refl _ _, fun y => absurd y z⟩
    unfold zb_sam
    rw [decide_eq_false (fun y => z y.1)]; rfl
  unfold F_Mo_areSame
  refine zb_Wpos ia (zb_Wlet (zb_Wpos ib (zb_Wlet ?_)))
  rw [zb_n_ix (show a ≤ 2147483647 by omega), zb_n_ix (show b ≤ 2147483647 by omega), row0a, row0b]
  refine zb_Wpos ira (zb_Wpos irb ?_)
  rw [zb_n_ix (show (TK a 0).toNat ≤ 2147483647 by omega), zb_n_ix (show (TK b 0).toNat ≤ 2147483647 by omega), show s.1 223 a = zb_i (TK a 1) from rowa 1 (by omega), show s.1 223 b = zb_i (TK b 1) from rowb 1 (by omega), zb_fldM hM.2.2.2.1 ra (f := 3) (c := 207) (by omega) (by omega) rfl, zb_fldM hM.2.2.2.1 ra (f := 4) (c := 208) (by omega) (by omega) rfl, zb_fldM hM.2.2.2.1 rb (f := 3) (c := 207) (by omega) (by omega) rfl, zb_fldM hM.2.2.2.1 rb (f := 4) (c := 208) (by omega) (by omega) rfl]
  simp only [zb_i_eq (show -2147483648 ≤ TK a 1 by omega) (show TK a 1 ≤ 2147483647 by omega) (show -2147483648 ≤ TK b 1 by omega) (show TK b 1 ≤ 2147483647 by omega), zb_i_eq (show -2147483648 ≤ R (TK a 0).toNat 3 by omega) (show R (TK a 0).toNat 3 ≤ 2147483647 by omega) (show -2147483648 ≤ R (TK b 0).toNat 3 by omega) (show R (TK b 0).toNat 3 ≤ 2147483647 by omega), zb_i_eq (show -2147483648 ≤ R (TK a 0).toNat 4 by omega) (show R (TK a 0).toNat 4 ≤ 2147483647 by omega) (show -2147483648 ≤ R (TK b 0).toNat 4 by omega) (show R (TK b 0).toNat 4 ≤ 2147483647 by omega)]
  refine zb_Wif (fun w2 => zb_Wpos ira (zb_Wpos irb ?_)) (fun w => no (fun z => w z.2.1))
  refine zb_Wif (fun w3 => zb_Wpos ia (zb_Wpos ib ?_)) (fun w => no (fun z => w z.2.2))
  refine zb_Wif (fun w1 => ?_) (fun w => no (fun z => w z.1))
  refine zb_Wbind2 (zb_ask h ha hb) (fun u hu => ?_)
  obtain ⟨u1, u2, u3, u4⟩ := hu
  rw [u3]
  refine zb_Wpos zb_bl_b (zb_Wsome ⟨?_, u1, u2, fun _ => u4⟩)
  congr 1
  unfold zb_sam
  cases e : zb_hs K LO LD LE R TK a b with
  | true => rw [decide_eq_true ⟨⟨w1, w2, w3⟩, rfl⟩]
  | false => rw [decide_eq_false (fun z => by cases z.2)]
theorem zb_unlike_M (h : zb_J1 N A B M O K LO LD LE td Q R T TK W WK Z ZK s) (ha : a < T) (hb : b < T) : zb_W (F_Mo_areUnlike (zb_n a) (zb_n b) s) (fun r => r.1 = zb_b (zb_unl K LO LD LE R TK a b) ∧ zb_J1 N A B M O K LO LD LE td Q R T TK W WK Z ZK r.2 ∧ zb_fr zb_ZUM s r.2) := by
  obtain ⟨hW, hM, hX, hO, hB⟩ := id h
  have h80 := hW.2.2.2.1
  obtain ⟨a1, a2, a3, a4, a5⟩ := hW.2.2.2.2.1 a ha
  obtain ⟨b1, b2, b3, b4, b5⟩ := hW.2.2.2.2.1 b hb
  have ia : sv_ib (zb_n a) 80 = true := by rw [zb_ib_n (by omega)]; omega
  have ib : sv_ib (zb_n b) 80 = true := by rw [zb_ib_n (by omega)]; omega
  have p1 := zb_mulr (x := 99999) (y := 99) a4.1 a4.2 (by omega : 0 ≤ TK b 2) b3.2
  have p2 := zb_mulr (x := 99999) (y := 99) b4.1 b4.2 (by omega : 0 ≤ TK a 2) a3.2
  unfold F_Mo_areUnlike
  refine zb_Wbind2 (zb_same_M h ha hb) (fun r hr => ?_)
  obtain ⟨r1, r2, r3, r4⟩ := hr
  rw [r1]
  by_cases q : zb_lik R TK a b ∧ zb_hs K LO LD LE R TK a b = true
  rotate_left
  · refine zb_Wpos ?_ (zb_Wsome ⟨?_, r2, r3⟩)
    · unfold zb_sam; exact zb_bF q
    · unfold zb_unl; rw [decide_eq_false (fun z => q ⟨z.1, z.2.1⟩)]; rfl
  refine zb_Wneg ?_ (zb_Wpos ia (zb_Wpos ib (zb_Wpos ib (zb_Wpos ia ?_))))
  · unfold zb_sam; exact zb_bT q
  have rowa := r2.2.1.2.2.2.2.1.2 a ha
  have rowb := r2.2.1.2.2.2.2.1.2 b hb
  have cz : ∀ x y : Int64, (lg_cmp x y = (0 : Int32)) = (x = y) := by
    intro x y
    unfold lg_cmp
    by_cases g : x > y
    · rw [if_pos g]
      refine (eq_false (by decide)).trans (eq_false (fun z => ?_)).symm
      have := Int64.lt_iff_toInt_lt.mp g
      rw [z] at this; omega
    · rw [if_neg g]
      by_cases e : x = y
      · rw [if_pos e]; exact (eq_true rfl).trans (eq_true e).symm
      · rw [if_neg e]; exact (eq_false (by decide)).trans (eq_false e).symm
  rw [zb_n_ix (show a ≤ 2147483647 by omega), zb_n_ix (show b ≤ 2147483647 by omega), show r.2.1 225 a = zb_i (TK a 3) from rowa 3 (by omega), show r.2.1 225 b = zb_i (TK b 3) from rowb 3 (by omega), show r.2.1 224 a = zb_i (TK a 2) from rowa 2 (by omega), show r.2.1 224 b = zb_i (TK b 2) from rowb 2 (by omega), zb_x_l, zb_x_l, zb_x_l, zb_x_l, zb_l_mul, zb_l_mul, zb_ti (by omega) (by omega), zb_ti (by omega) (by omega), zb_ti (by omega) (by omega), zb_ti (by omega) (by omega)]
  have ez : (lg_cmp (zb_l (TK a 3 * TK b 2)) (zb_l (TK b 3 * TK a 2)) = (0 : Int32)) = (TK a 3 * TK b 2 = TK b 3 * TK a 2) := by
    rw [cz, ← Int64.toInt_inj, zb_tl (by omega) (by omega), zb_tl (by omega) (by omega)]
  simp only [ez]
  refine zb_Wif (fun w => zb_Wsome ⟨?_, r2, r3⟩) (fun w0 => ?_)
  · unfold zb_unl; rw [decide_eq_false (fun z => z.2.2.1 w)]; rfl
  rw [r4 q.1]
  cases e : zb_he K LO LD LE R TK a b with
  | true =>
    refine zb_Wneg (by decide) (zb_Wsome ⟨?_, r2, r3⟩)
    unfold zb_unl; rw [decide_eq_false (fun z => by rw [e] at z; cases z.2.2.2)]; rfl
  | false =>
    refine zb_Wpos rfl (zb_Wsome ⟨?_, r2, r3⟩)
    unfold zb_unl; rw [decide_eq_true ⟨q.1, q.2, w0, e⟩]; rfl
theorem zb_c_unlike (h : zb_J s) : zb_m11 (F_X_unlike x1 x2 x3 s) (F_Mo_unlike x1 x2 x3) s := by
  obtain ⟨N, A, B, M, O, K, LO, LD, LE, td, Q, R, T, TK, W, WK, Z, ZK, h⟩ := h
  have hj := zb_J_of h
  obtain ⟨hW, hM, hX, hO, hB⟩ := id h
  have h80 := hW.2.2.2.1
  have no : ∀ v : Int32, F_X_unlike x1 x2 x3 s = some (v, s) → F_Mo_unlike x1 x2 x3 s = some (v, s) → zb_m11 (F_X_unlike x1 x2 x3 s) (F_Mo_unlike x1 x2 x3) s := fun v a b => zb_m11_no hj a b
  have z1 : (x3 < (0 : Int32)) = (x3.toInt < 0) := by rw [show (0 : Int32) = zb_n 0 from rfl]; exact zb_c_ltn (by omega)
  have z2 : (x3 ≤ (1 : Int32)) = (x3.toInt ≤ 1) := by rw [show (1 : Int32) = zb_n 1 from rfl]; exact zb_c_len (by omega)
  have t0 : (0 : Int32).toInt = 0 := by decide
  have t1 : (1 : Int32).toInt = 1 := by decide
  have xg : F_X_unlike x1 x2 x3 s = if ¬ (0 ≤ x1.toInt ∧ x1.toInt < T) then some ((-1 : Int32), s) else if ¬ (0 ≤ x2.toInt ∧ x2.toInt < T) then some ((-1 : Int32), s) else if x1 = x2 then some ((-2 : Int32), s) else if x3.toInt < 0 then some ((-1 : Int32), s) else if x3.toInt ≤ 1 then (F_JM_min x1 x2 s).bind fun r3 =>
    (F_JM_max x1 x2 s).bind fun r4 =>
    if x3 = 0 then
      (F_Tr_areSame r3 r4 s).bind fun r6 =>
      if r6.1 = 0 then
        some ((0 : Int32), r6.2)
      else
      some ((1 : Int32), r6.2)
    else
    (F_Tr_areUnlike r3 r4 s).bind fun r5 =>
    if r5.1 = 0 then
      some ((0 : Int32), r5.2)
    else
    some ((1 : Int32), r5.2) else some ((-1 : Int32), s) := by
    simp only [F_X_unlike, z1, z2, zb_g_truck hX h80, Option.bind_some, zb_bz]
  have mg : ∀ u, zb_MM N A B M O K LO LD LE td Q R T TK W WK Z ZK u → F_Mo_unlike x1 x2 x3 u = if ¬ (0 ≤ x1.toInt ∧ x1.toInt < T) then some ((-1 : Int32), u) else if ¬ (0 ≤ x2.toInt ∧ x2.toInt < T) then some ((-1 : Int32), u) else if x1 = x2 then some ((-2 : Int32), u) else if ¬ (0 ≤ x3.toInt ∧ x3.toInt ≤ 1) then some ((-1 : Int32), u) else if x2 ≤ x1 then F_Mo_unlike_b48 x1 x2 x3 x2 u else F_Mo_unlike_b48 x1 x2 x3 x1 u := by
    intro u hu
    simp only [F_Mo_unlike, zb_h_truck hu h80, zb_h_inL, t0, t1, Option.bind_some, zb_bz]
  by_cases q1 : 0 ≤ x1.toInt ∧ x1.toInt < T
  rotate_left
  · exact no _ (by rw [xg, if_pos q1]) (by rw [mg s hM, if_pos q1])
  rw [if_neg (not_not_intro q1)] at xg
  simp only [if_neg (not_not_intro q1)] at mg
  by_cases q2 : 0 ≤ x2.toInt ∧ x2.toInt < T
  rotate_left
  · exact no _ (by rw [xg, if_pos q2]) (by rw [mg s hM, if_pos q2])
  rw [if_neg (not_not_intro q2)] at xg
  simp only [if_neg (not_not_intro q2)] at mg
  by_cases q3 : x1 = x2
  · exact no _ (by rw [xg, if_pos q3]) (by rw [mg s hM, if_pos q3])
  rw [if_neg q3] at xg
  simp only [if_neg q3] at mg
  by_cases q4 : 0 ≤ x3.toInt ∧ x3.toInt ≤ 1
  rotate_left
  · refine no (-1 : Int32) ?_ (by rw [mg s hM, if_pos q4])
    rw [xg]
    by_cases w : x3.toInt < 0
    · rw [if_pos w]
    · rw [if_neg w, if_neg (by omega)]
  rw [if_neg (by omega), if_pos q4.2] at xg
  simp only [if_neg (not_not_intro q4)] at mg
  obtain ⟨p, hp, rfl⟩ := zb_an3 q1
  obtain ⟨q, hq, rfl⟩ := zb_an3 q2
  -- in order
  obtain ⟨a, b, ha, hb, emin, emax, em⟩ : ∃ a b : Nat, a < T ∧ b < T ∧ F_JM_min (zb_n p) (zb_n q) s = some (zb_n a) ∧ F_JM_max (zb_n p) (zb_n q) s = some (zb_n b) ∧ ∀ u, zb_MM N A B M O K LO LD LE td Q R T TK W WK Z ZK u → F_Mo_unlike (zb_n p) (zb_n q) x3 u = F_Mo_unlike_b60 x3 (zb_n a) (zb_n b) u := by
    have l1 : (zb_n q < zb_n p) = (q < p) := zb_n_lt (by omega) (by omega)
    have l2 : (zb_n p < zb_n q) = (p < q) := zb_n_lt (by omega) (by omega)
    have l3 : (zb_n q ≤ zb_n p) = (q ≤ p) := zb_n_le (by omega) (by omega)
    have ne : p ≠ q := fun z => q3 (by rw [z])
    by_cases w : q < p
    · refine ⟨q, p, hq, hp, ?_, ?_, fun u hu => ?_⟩
      · unfold F_JM_min; simp only [l1, w, if_true]
      · unfold F_JM_max; simp only [l2, show ¬ p < q by omega, if_false]
      · rw [mg u hu]; unfold F_Mo_unlike_b48; simp only [l3, show q ≤ p by omega, if_true]
    · refine ⟨p, q, hp, hq, ?_, ?_, fun u hu => ?_⟩
      · unfold F_JM_min; simp only [l1, w, if_false]
      · unfold F_JM_max; simp only [l2, show p < q by omega, if_true]
      · rw [mg u hu]; unfold F_Mo_unlike_b48; simp only [l3, show ¬ q ≤ p by omega, if_false]
  rw [emin, Option.bind_some, emax, Option.bind_some] at xg
  have b01 : ∀ (c : Bool) (u : sv_S), (if zb_b c = 0 then some ((0 : Int32), u) else some ((1 : Int32), u)) = some (zb_b c, u) := by
    intro c u
    cases c with
    | false => rw [if_pos (show zb_b false = (0 : Int32) from rfl)]; rfl
    | true => rw [if_neg (by decide)]; rfl
  refine zb_m11_of (v := if x3 = 0 then zb_b (zb_sam K LO LD LE R TK a b) else zb_b (zb_unl K LO LD LE R TK a b)) (N := N) (A := A) (B := B) (M := M) (O := O) (K := K) (LO := LO) (LD := LD) (LE := LE) (td := td) (Q := Q) (R := R) (T := T) (TK := TK) (W := W) (WK := WK) (Z := Z) (ZK := ZK) ?_ (fun u hu => ?_)
  · rw [xg]
    by_cases w : x3 = 0
    · rw [if_pos w, if_pos w]
      refine zb_Wbind2 (zb_same_X h ha hb) (fun r hr => ?_)
      rw [hr.1, b01]
      exact zb_Wsome ⟨rfl, hr.2.1, zb_keep_fx hr.2.2.1 rfl⟩
    · rw [if_neg w, if_neg w]
      refine zb_Wbind2 (zb_unlike_X h ha hb) (fun r hr => ?_)
      rw [hr.1, b01]
      exact zb_Wsome ⟨rfl, hr.2.1, zb_keep_fx hr.2.2 rfl⟩
  · rw [em u hu.2.1]
    unfold F_Mo_unlike_b60
    by_cases w : x3 = 0
    · rw [if_pos w, if_pos w]
      refine zb_Wbind2 (zb_same_M hu ha hb) (fun r hr => ?_)
      rw [hr.1, b01]
      exact zb_Wsome ⟨rfl, hr.2.1, zb_keep_fr hr.2.2.1 rfl⟩
    · rw [if_neg w, if_neg w]
      refine zb_Wbind2 (zb_unlike_M hu ha hb) (fun r hr => ?_)
      rw [hr.1, b01]
      exact zb_Wsome ⟨rfl, hr.2.1, zb_keep_fr hr.2.2 rfl⟩
end UNL
