/-! the law's loop -/
section LOP
variable {s : sv_S} {kc : Int32 → sv_S → Option (Int32 × sv_S)} {P : Int32 × sv_S → Prop} {k n : Nat}
def zb_St (k n : Nat) (kc : Int32 → sv_S → Option (Int32 × sv_S)) (P : Int32 × sv_S → Prop) (s : sv_S) : Prop := zb_J s ∧ k + 8 ≤ n ∧ n ≤ 4096 ∧ s.2.2.2.1 0 = n ∧ ∀ u, zb_J u → zb_keep s u → zb_W (kc (zb_n (k + 8)) u) P
theorem zb_Ng (l : Nat → Nat) : ss_N l 0 = l 0 := if_pos rfl
theorem zb_gs (h : zb_St k n kc P s) : ∀ j : Nat, j < 8 → sv_ib (zb_n k + zb_n j) n = true := by
  intro j hj
  obtain ⟨_, h1, h2, _⟩ := h
  rw [zb_n_add, zb_ib_n (by omega)]; omega
theorem zb_lg (a : Int64) : lg_cmp a a = 0 := by
  unfold lg_cmp
  simp
theorem zb_b1919 {u : sv_S} (h : zb_St k n kc P s) (hj : zb_J u) (hk : zb_keep s u) : zb_W (F_La_law_b1919 kc (zb_n k) u) P := by
  unfold F_La_law_b1919
  refine zb_Wlet ?_
  rw [show zb_n k + (8 : Int32) = zb_n (k + 8) from zb_n_add k 8]
  exact h.2.2.2.2 u hj hk
theorem zb_s_pass (h : zb_St k n kc P s) : zb_W (F_La_law_b212 kc (zb_n k) s) P := by
  have g1 : sv_ib (zb_n k + (1 : Int32)) n = true := zb_gs h 1 (by omega)
  have hn := h.2.2.2.1
  unfold F_La_law_b212
  simp only [zb_Ng, hn, g1, if_true]
  refine zb_Wbind2 (zb_c_pass h.1) (fun r hr => ?_)
  obtain ⟨k1, w⟩ := hr
  have hn1 : r.2.2.2.2.1 0 = n := k1.2.trans hn
  simp only [zb_Ng, hn1, k1.1, g1, if_true]
  refine zb_Wbind2 w (fun q hq => ?_)
  exact zb_Wpos (by rw [hq.1]) (zb_b1919 h hq.2.1 hq.2.2)
theorem zb_s_line (h : zb_St k n kc P s) : zb_W (F_La_law_b235 kc (zb_n k) s) P := by
  have g1 : sv_ib (zb_n k + (1 : Int32)) n = true := zb_gs h 1 (by omega)
  have g2 : sv_ib (zb_n k + (2 : Int32)) n = true := zb_gs h 2 (by omega)
  have g3 : sv_ib (zb_n k + (3 : Int32)) n = true := zb_gs h 3 (by omega)
  have g4 : sv_ib (zb_n k + (4 : Int32)) n = true := zb_gs h 4 (by omega)
  have hn := h.2.2.2.1
  unfold F_La_law_b235
  simp only [zb_Ng, hn, g1, g2, g3, g4, if_true]
  refine zb_Wbind2 (zb_c_line h.1) (fun r hr => ?_)
  obtain ⟨k1, w⟩ := hr
  have hn1 : r.2.2.2.2.1 0 = n := k1.2.trans hn
  simp only [zb_Ng, hn1, k1.1, g1, g2, g3, g4, if_true]
  refine zb_Wbind2 w (fun q hq => ?_)
  exact zb_Wpos (by rw [hq.1]) (zb_b1919 h hq.2.1 hq.2.2)
theorem zb_s_miles (h : zb_St k n kc P s) : zb_W (F_La_law_b288 kc (zb_n k) s) P := by
  have g1 : sv_ib (zb_n k + (1 : Int32)) n = true := zb_gs h 1 (by omega)
  have g2 : sv_ib (zb_n k + (2 : Int32)) n = true := zb_gs h 2 (by omega)
  have g3 : sv_ib (zb_n k + (3 : Int32)) n = true := zb_gs h 3 (by omega)
  have hn := h.2.2.2.1
  unfold F_La_law_b288
  simp only [zb_Ng, hn, g1, g2, g3, if_true]
  refine zb_Wbind2 (zb_c_miles h.1) (fun r w => ?_)
  refine zb_Wbind2 w (fun q hq => ?_)
  exact zb_Wpos (by rw [hq.1]) (zb_b1919 h hq.2.1 hq.2.2)
theorem zb_s_way (h : zb_St k n kc P s) : zb_W (F_La_law_b331 kc (zb_n k) s) P := by
  have g1 : sv_ib (zb_n k + (1 : Int32)) n = true := zb_gs h 1 (by omega)
  have g2 : sv_ib (zb_n k + (2 : Int32)) n = true := zb_gs h 2 (by omega)
  have g3 : sv_ib (zb_n k + (3 : Int32)) n = true := zb_gs h 3 (by omega)
  have hn := h.2.2.2.1
  unfold F_La_law_b331
  simp only [zb_Ng, hn, g1, g2, g3, if_true]
  refine zb_Wbind2 (zb_c_way h.1) (fun r w => ?_)
  refine zb_Wbind2 w (fun q hq => ?_)
  exact zb_Wpos (by rw [hq.1]) (zb_b1919 h hq.2.1 hq.2.2)
theorem zb_s_feed (h : zb_St k n kc P s) : zb_W (F_La_law_b374 kc (zb_n k) s) P := by
  have g1 : sv_ib (zb_n k + (1 : Int32)) n = true := zb_gs h 1 (by omega)
  have g2 : sv_ib (zb_n k + (2 : Int32)) n = true := zb_gs h 2 (by omega)
  have hn := h.2.2.2.1
  unfold F_La_law_b374
  simp only [zb_Ng, hn, g1, g2, if_true]
  refine zb_Wbind2 (zb_c_feed h.1) (fun r hr => ?_)
  obtain ⟨k1, w⟩ := hr
  have hn1 : r.2.2.2.2.1 0 = n := k1.2.trans hn
  simp only [zb_Ng, hn1, k1.1, g1, g2, if_true]
  refine zb_Wbind2 w (fun q hq => ?_)
  exact zb_Wpos (by rw [hq.1]) (zb_b1919 h hq.2.1 hq.2.2)
theorem zb_s_law (h : zb_St k n kc P s) : zb_W (F_La_law_b407 kc (zb_n k) s) P := by
  have g1 : sv_ib (zb_n k + (1 : Int32)) n = true := zb_gs h 1 (by omega)
  have g2 : sv_ib (zb_n k + (2 : Int32)) n = true := zb_gs h 2 (by omega)
  have hn := h.2.2.2.1
  unfold F_La_law_b407
  simp only [zb_Ng, hn, g1, g2, if_true]
  refine zb_Wbind2 (zb_c_law h.1) (fun r hr => ?_)
  obtain ⟨k1, w⟩ := hr
  have hn1 : r.2.2.2.2.1 0 = n := k1.2.trans hn
  simp only [zb_Ng, hn1, k1.1, g1, g2, if_true]
  refine zb_Wbind2 w (fun q hq => ?_)
  exact zb_Wpos (by rw [hq.1]) (zb_b1919 h hq.2.1 hq.2.2)
theorem zb_s_holds (h : zb_St k n kc P s) : zb_W (F_La_law_b440 kc (zb_n k) s) P := by
  have g1 : sv_ib (zb_n k + (1 : Int32)) n = true := zb_gs h 1 (by omega)
  have g2 : sv_ib (zb_n k + (2 : Int32)) n = true := zb_gs h 2 (by omega)
  have g3 : sv_ib (zb_n k + (3 : Int32)) n = true := zb_gs h 3 (by omega)
  have hn := h.2.2.2.1
  unfold F_La_law_b440
  simp only [zb_Ng, hn, g1, g2, g3, if_true]
  refine zb_Wbind2 (zb_c_holds h.1) (fun r hr => ?_)
  obtain ⟨k1, w⟩ := hr
  have hn1 : r.2.2.2.2.1 0 = n := k1.2.trans hn
  simp only [zb_Ng, hn1, k1.1, g1, g2, g3, if_true]
  refine zb_Wbind2 w (fun q hq => ?_)
  exact zb_Wpos (by rw [hq.1]) (zb_b1919 h hq.2.1 hq.2.2)
theorem zb_s_rate (h : zb_St k n kc P s) : zb_W (F_La_law_b483 kc (zb_n k) s) P := by
  have g1 : sv_ib (zb_n k + (1 : Int32)) n = true := zb_gs h 1 (by omega)
  have g2 : sv_ib (zb_n k + (2 : Int32)) n = true := zb_gs h 2 (by omega)
  have g3 : sv_ib (zb_n k + (3 : Int32)) n = true := zb_gs h 3 (by omega)
  have g4 : sv_ib (zb_n k + (4 : Int32)) n = true := zb_gs h 4 (by omega)
  have g5 : sv_ib (zb_n k + (5 : Int32)) n = true := zb_gs h 5 (by omega)
  have g6 : sv_ib (zb_n k + (6 : Int32)) n = true := zb_gs h 6 (by omega)
  have g7 : sv_ib (zb_n k + (7 : Int32)) n = true := zb_gs h 7 (by omega)
  have hn := h.2.2.2.1
  unfold F_La_law_b483
  simp only [zb_Ng, hn, g1, g2, g3, g4, g5, g6, g7, if_true]
  refine zb_Wbind2 (zb_c_rate h.1) (fun r hr => ?_)
  obtain ⟨k1, w⟩ := hr
  have hn1 : r.2.2.2.2.1 0 = n := k1.2.trans hn
  simp only [zb_Ng, hn1, k1.1, g1, g2, g3, g4, g5, g6, g7, if_true]
  refine zb_Wbind2 w (fun q hq => ?_)
  exact zb_Wpos (by rw [hq.1]) (zb_b1919 h hq.2.1 hq.2.2)
theorem zb_s_special (h : zb_St k n kc P s) : zb_W (F_La_law_b570 kc (zb_n k) s) P := by
  have g1 : sv_ib (zb_n k + (1 : Int32)) n = true := zb_gs h 1 (by omega)
  have g2 : sv_ib (zb_n k + (2 : Int32)) n = true := zb_gs h 2 (by omega)
  have g3 : sv_ib (zb_n k + (3 : Int32)) n = true := zb_gs h 3 (by omega)
  have g4 : sv_ib (zb_n k + (4 : Int32)) n = true := zb_gs h 4 (by omega)
  have g5 : sv_ib (zb_n k + (5 : Int32)) n = true := zb_gs h 5 (by omega)
  have g6 : sv_ib (zb_n k + (6 : Int32)) n = true := zb_gs h 6 (by omega)
  have hn := h.2.2.2.1
  unfold F_La_law_b570
  simp only [zb_Ng, hn, g1, g2, g3, g4, g5, g6, if_true]
  refine zb_Wbind2 (zb_c_special h.1) (fun r hr => ?_)
  obtain ⟨k1, w⟩ := hr
  have hn1 : r.2.2.2.2.1 0 = n := k1.2.trans hn
  simp only [zb_Ng, hn1, k1.1, g1, g2, g3, g4, g5, g6, if_true]
  refine zb_Wbind2 w (fun q hq => ?_)
  exact zb_Wpos (by rw [hq.1]) (zb_b1919 h hq.2.1 hq.2.2)
theorem zb_s_withdraw (h : zb_St k n kc P s) : zb_W (F_La_law_b645 kc (zb_n k) s) P := by
  have g1 : sv_ib (zb_n k + (1 : Int32)) n = true := zb_gs h 1 (by omega)
  have hn := h.2.2.2.1
  unfold F_La_law_b645
  simp only [zb_Ng, hn, g1, if_true]
  refine zb_Wbind2 (zb_c_withdraw h.1) (fun r hr => ?_)
  obtain ⟨k1, w⟩ := hr
  have hn1 : r.2.2.2.2.1 0 = n := k1.2.trans hn
  simp only [zb_Ng, hn1, k1.1, g1, if_true]
  refine zb_Wbind2 w (fun q hq => ?_)
  exact zb_Wpos (by rw [hq.1]) (zb_b1919 h hq.2.1 hq.2.2)
theorem zb_s_set (h : zb_St k n kc P s) : zb_W (F_La_law_b668 kc (zb_n k) s) P := by
  have g1 : sv_ib (zb_n k + (1 : Int32)) n = true := zb_gs h 1 (by omega)
  have g2 : sv_ib (zb_n k + (2 : Int32)) n = true := zb_gs h 2 (by omega)
  have hn := h.2.2.2.1
  unfold F_La_law_b668
  simp only [zb_Ng, hn, g1, g2, if_true]
  refine zb_Wbind2 (zb_c_set h.1) (fun r hr => ?_)
  obtain ⟨k1, w⟩ := hr
  have hn1 : r.2.2.2.2.1 0 = n := k1.2.trans hn
  simp only [zb_Ng, hn1, k1.1, g1, g2, if_true]
  refine zb_Wbind2 w (fun q hq => ?_)
  exact zb_Wpos (by rw [hq.1]) (zb_b1919 h hq.2.1 hq.2.2)
theorem zb_s_undo (h : zb_St k n kc P s) : zb_W (F_La_law_b701 kc (zb_n k) s) P := by
  have g1 : sv_ib (zb_n k + (1 : Int32)) n = true := zb_gs h 1 (by omega)
  have hn := h.2.2.2.1
  unfold F_La_law_b701
  simp only [zb_Ng, hn, g1, if_true]
  refine zb_Wbind2 (zb_c_undo h.1) (fun r hr => ?_)
  obtain ⟨k1, w⟩ := hr
  have hn1 : r.2.2.2.2.1 0 = n := k1.2.trans hn
  simp only [zb_Ng, hn1, k1.1, g1, if_true]
  refine zb_Wbind2 w (fun q hq => ?_)
  exact zb_Wpos (by rw [hq.1]) (zb_b1919 h hq.2.1 hq.2.2)
theorem zb_s_of (h : zb_St k n kc P s) : zb_W (F_La_law_b724 kc (zb_n k) s) P := by
  have g1 : sv_ib (zb_n k + (1 : Int32)) n = true := zb_gs h 1 (by omega)
  have g2 : sv_ib (zb_n k + (2 : Int32)) n = true := zb_gs h 2 (by omega)
  have hn := h.2.2.2.1
  unfold F_La_law_b724
  simp only [zb_Ng, hn, g1, g2, if_true]
  refine zb_Wbind2 (zb_c_of h.1) (fun r w => ?_)
  refine zb_Wbind2 w (fun q hq => ?_)
  exact zb_Wpos (by rw [hq]) (zb_b1919 h h.1 (zb_keep_refl _))
theorem zb_s_charge (h : zb_St k n kc P s) : zb_W (F_La_law_b757 kc (zb_n k) s) P := by
  have g1 : sv_ib (zb_n k + (1 : Int32)) n = true := zb_gs h 1 (by omega)
  have g2 : sv_ib (zb_n k + (2 : Int32)) n = true := zb_gs h 2 (by omega)
  have g3 : sv_ib (zb_n k + (3 : Int32)) n = true := zb_gs h 3 (by omega)
  have g4 : sv_ib (zb_n k + (4 : Int32)) n = true := zb_gs h 4 (by omega)
  have hn := h.2.2.2.1
  unfold F_La_law_b757
  simp only [zb_Ng, hn, g1, g2, g3, g4, if_true]
  refine zb_Wbind2 (zb_c_charge h.1) (fun r hr => ?_)
  obtain ⟨k1, w⟩ := hr
  have hn1 : r.2.2.2.2.1 0 = n := k1.2.trans hn
  simp only [zb_Ng, hn1, k1.1, g1, g2, g3, g4, if_true]
  refine zb_Wbind2 w (fun q hq => ?_)
  exact zb_Wpos (by rw [hq.1]) (zb_b1919 h hq.2.1 hq.2.2)
theorem zb_s_most (h : zb_St k n kc P s) : zb_W (F_La_law_b810 kc (zb_n k) s) P := by
  have g1 : sv_ib (zb_n k + (1 : Int32)) n = true := zb_gs h 1 (by omega)
  have g2 : sv_ib (zb_n k + (2 : Int32)) n = true := zb_gs h 2 (by omega)
  have g3 : sv_ib (zb_n k + (3 : Int32)) n = true := zb_gs h 3 (by omega)
  have hn := h.2.2.2.1
  unfold F_La_law_b810
  simp only [zb_Ng, hn, g1, g2, g3, if_true]
  refine zb_Wbind2 (zb_c_most h.1) (fun r hr => ?_)
  obtain ⟨k1, w⟩ := hr
  have hn1 : r.2.2.2.2.1 0 = n := k1.2.trans hn
  simp only [zb_Ng, hn1, k1.1, g1, g2, g3, if_true]
  refine zb_Wbind2 w (fun q hq => ?_)
  exact zb_Wpos (by rw [hq.1]) (zb_b1919 h hq.2.1 hq.2.2)
theorem zb_s_part (h : zb_St k n kc P s) : zb_W (F_La_law_b853 kc (zb_n k) s) P := by
  have g1 : sv_ib (zb_n k + (1 : Int32)) n = true := zb_gs h 1 (by omega)
  have g2 : sv_ib (zb_n k + (2 : Int32)) n = true := zb_gs h 2 (by omega)
  have g3 : sv_ib (zb_n k + (3 : Int32)) n = true := zb_gs h 3 (by omega)
  have hn := h.2.2.2.1
  unfold F_La_law_b853
  simp only [zb_Ng, hn, g1, g2, g3, if_true]
  refine zb_Wbind2 (zb_c_part h.1) (fun r hr => ?_)
  obtain ⟨k1, w⟩ := hr
  have hn1 : r.2.2.2.2.1 0 = n := k1.2.trans hn
  simp only [zb_Ng, hn1, k1.1, g1, g2, g3, if_true]
  refine zb_Wbind2 w (fun q hq => ?_)
  exact zb_Wpos (by rw [hq.1]) (zb_b1919 h hq.2.1 hq.2.2)
theorem zb_s_truck (h : zb_St k n kc P s) : zb_W (F_La_law_b896 kc (zb_n k) s) P := by
  have g1 : sv_ib (zb_n k + (1 : Int32)) n = true := zb_gs h 1 (by omega)
  have g2 : sv_ib (zb_n k + (2 : Int32)) n = true := zb_gs h 2 (by omega)
  have g3 : sv_ib (zb_n k + (3 : Int32)) n = true := zb_gs h 3 (by omega)
  have g4 : sv_ib (zb_n k + (4 : Int32)) n = true := zb_gs h 4 (by omega)
  have g5 : sv_ib (zb_n k + (5 : Int32)) n = true := zb_gs h 5 (by omega)
  have hn := h.2.2.2.1
  unfold F_La_law_b896
  simp only [zb_Ng, hn, g1, g2, g3, g4, g5, if_true]
  refine zb_Wbind2 (zb_c_truck h.1) (fun r hr => ?_)
  obtain ⟨k1, w⟩ := hr
  have hn1 : r.2.2.2.2.1 0 = n := k1.2.trans hn
  simp only [zb_Ng, hn1, k1.1, g1, g2, g3, g4, g5, if_true]
  refine zb_Wbind2 w (fun q hq => ?_)
  exact zb_Wpos (by rw [hq.1]) (zb_b1919 h hq.2.1 hq.2.2)
theorem zb_s_book (h : zb_St k n kc P s) : zb_W (F_La_law_b959 kc (zb_n k) s) P := by
  have g1 : sv_ib (zb_n k + (1 : Int32)) n = true := zb_gs h 1 (by omega)
  have g2 : sv_ib (zb_n k + (2 : Int32)) n = true := zb_gs h 2 (by omega)
  have g3 : sv_ib (zb_n k + (3 : Int32)) n = true := zb_gs h 3 (by omega)
  have hn := h.2.2.2.1
  unfold F_La_law_b959
  simp only [zb_Ng, hn, g1, g2, g3, if_true]
  refine zb_Wbind2 (zb_c_book h.1) (fun r hr => ?_)
  obtain ⟨k1, w⟩ := hr
  have hn1 : r.2.2.2.2.1 0 = n := k1.2.trans hn
  simp only [zb_Ng, hn1, k1.1, g1, g2, g3, if_true]
  refine zb_Wbind2 w (fun q hq => ?_)
  exact zb_Wpos (by rw [hq.1]) (zb_b1919 h hq.2.1 hq.2.2)
theorem zb_s_ended (h : zb_St k n kc P s) : zb_W (F_La_law_b1002 kc (zb_n k) s) P := by
  have hn := h.2.2.2.1
  unfold F_La_law_b1002
  refine zb_Wbind2 (zb_c_ended h.1) (fun r w => ?_)
  refine zb_Wbind2 w (fun q hq => ?_)
  exact zb_Wpos (by rw [hq]) (zb_b1919 h h.1 (zb_keep_refl _))
theorem zb_s_due (h : zb_St k n kc P s) : zb_W (F_La_law_b1015 kc (zb_n k) s) P := by
  have g1 : sv_ib (zb_n k + (1 : Int32)) n = true := zb_gs h 1 (by omega)
  have hn := h.2.2.2.1
  unfold F_La_law_b1015
  simp only [zb_Ng, hn, g1, if_true]
  refine zb_Wbind2 (zb_c_due h.1) (fun r hr => ?_)
  obtain ⟨k1, w⟩ := hr
  have hn1 : r.2.2.2.2.1 0 = n := k1.2.trans hn
  simp only [zb_Ng, hn1, k1.1, g1, if_true]
  refine zb_Wbind2 w (fun q hq => ?_)
  exact zb_Wpos (by rw [hq.1]) (zb_b1919 h hq.2.1 hq.2.2)
theorem zb_s_unlike (h : zb_St k n kc P s) : zb_W (F_La_law_b1038 kc (zb_n k) s) P := by
  have g1 : sv_ib (zb_n k + (1 : Int32)) n = true := zb_gs h 1 (by omega)
  have g2 : sv_ib (zb_n k + (2 : Int32)) n = true := zb_gs h 2 (by omega)
  have g3 : sv_ib (zb_n k + (3 : Int32)) n = true := zb_gs h 3 (by omega)
  have hn := h.2.2.2.1
  unfold F_La_law_b1038
  simp only [zb_Ng, hn, g1, g2, g3, if_true]
  refine zb_Wbind2 (zb_c_unlike h.1) (fun r hr => ?_)
  obtain ⟨k1, w⟩ := hr
  have hn1 : r.2.2.2.2.1 0 = n := k1.2.trans hn
  simp only [zb_Ng, hn1, k1.1, g1, g2, g3, if_true]
  refine zb_Wbind2 w (fun q hq => ?_)
  exact zb_Wpos (by rw [hq.1]) (zb_b1919 h hq.2.1 hq.2.2)
theorem zb_s_unlikes (h : zb_St k n kc P s) : zb_W (F_La_law_b1081 kc (zb_n k) s) P := by
  have g1 : sv_ib (zb_n k + (1 : Int32)) n = true := zb_gs h 1 (by omega)
  have hn := h.2.2.2.1
  unfold F_La_law_b1081
  simp only [zb_Ng, hn, g1, if_true]
  refine zb_Wbind2 (zb_c_unlikes h.1) (fun r hr => ?_)
  obtain ⟨k1, w⟩ := hr
  have hn1 : r.2.2.2.2.1 0 = n := k1.2.trans hn
  simp only [zb_Ng, hn1, k1.1, g1, if_true]
  refine zb_Wbind2 w (fun q hq => ?_)
  exact zb_Wpos (by rw [hq.1]) (zb_b1919 h hq.2.1 hq.2.2)
theorem zb_s_suit (h : zb_St k n kc P s) : zb_W (F_La_law_b1104 kc (zb_n k) s) P := by
  have g1 : sv_ib (zb_n k + (1 : Int32)) n = true := zb_gs h 1 (by omega)
  have hn := h.2.2.2.1
  unfold F_La_law_b1104
  simp only [zb_Ng, hn, g1, if_true]
  refine zb_Wbind2 (zb_c_suit h.1) (fun r hr => ?_)
  obtain ⟨k1, w⟩ := hr
  have hn1 : r.2.2.2.2.1 0 = n := k1.2.trans hn
  simp only [zb_Ng, hn1, k1.1, g1, if_true]
  refine zb_Wbind2 w (fun q hq => ?_)
  exact zb_Wpos (by rw [hq.1, zb_lg]) (zb_b1919 h hq.2.1 hq.2.2)
theorem zb_s_cheap (h : zb_St k n kc P s) : zb_W (F_La_law_b1128 kc (zb_n k) s) P := by
  have g1 : sv_ib (zb_n k + (1 : Int32)) n = true := zb_gs h 1 (by omega)
  have g2 : sv_ib (zb_n k + (2 : Int32)) n = true := zb_gs h 2 (by omega)
  have g3 : sv_ib (zb_n k + (3 : Int32)) n = true := zb_gs h 3 (by omega)
  have g4 : sv_ib (zb_n k + (4 : Int32)) n = true := zb_gs h 4 (by omega)
  have g5 : sv_ib (zb_n k + (5 : Int32)) n = true := zb_gs h 5 (by omega)
  have g6 : sv_ib (zb_n k + (6 : Int32)) n = true := zb_gs h 6 (by omega)
  have hn := h.2.2.2.1
  unfold F_La_law_b1128
  simp only [zb_Ng, hn, g1, g2, g3, g4, g5, g6, if_true]
  refine zb_Wbind2 (zb_c_cheap h.1) (fun r hr => ?_)
  obtain ⟨k1, w⟩ := hr
  have hn1 : r.2.2.2.2.1 0 = n := k1.2.trans hn
  simp only [zb_Ng, hn1, k1.1, g1, g2, g3, g4, g5, g6, if_true]
  refine zb_Wbind2 w (fun q hq => ?_)
  exact zb_Wpos (by rw [hq.1]) (zb_b1919 h hq.2.1 hq.2.2)
theorem zb_s_cry (h : zb_St k n kc P s) : zb_W (F_La_law_b1203 kc (zb_n k) s) P := by
  have g1 : sv_ib (zb_n k + (1 : Int32)) n = true := zb_gs h 1 (by omega)
  have g2 : sv_ib (zb_n k + (2 : Int32)) n = true := zb_gs h 2 (by omega)
  have g3 : sv_ib (zb_n k + (3 : Int32)) n = true := zb_gs h 3 (by omega)
  have g4 : sv_ib (zb_n k + (4 : Int32)) n = true := zb_gs h 4 (by omega)
  have g5 : sv_ib (zb_n k + (5 : Int32)) n = true := zb_gs h 5 (by omega)
  have hn := h.2.2.2.1
  unfold F_La_law_b1203
  simp only [zb_Ng, hn, g1, g2, g3, g4, g5, if_true]
  refine zb_Wbind2 (zb_c_cry h.1) (fun r hr => ?_)
  obtain ⟨k1, w⟩ := hr
  have hn1 : r.2.2.2.2.1 0 = n := k1.2.trans hn
  simp only [zb_Ng, hn1, k1.1, g1, g2, g3, g4, g5, if_true]
  refine zb_Wbind2 w (fun q hq => ?_)
  exact zb_Wpos (by rw [hq.1]) (zb_b1919 h hq.2.1 hq.2.2)
theorem zb_s_want (h : zb_St k n kc P s) : zb_W (F_La_law_b1266 kc (zb_n k) s) P := by
  have g1 : sv_ib (zb_n k + (1 : Int32)) n = true := zb_gs h 1 (by omega)
  have g2 : sv_ib (zb_n k + (2 : Int32)) n = true := zb_gs h 2 (by omega)
  have g3 : sv_ib (zb_n k + (3 : Int32)) n = true := zb_gs h 3 (by omega)
  have g4 : sv_ib (zb_n k + (4 : Int32)) n = true := zb_gs h 4 (by omega)
  have g5 : sv_ib (zb_n k + (5 : Int32)) n = true := zb_gs h 5 (by omega)
  have hn := h.2.2.2.1
  unfold F_La_law_b1266
  simp only [zb_Ng, hn, g1, g2, g3, g4, g5, if_true]
  refine zb_Wbind2 (zb_c_want h.1) (fun r hr => ?_)
  obtain ⟨k1, w⟩ := hr
  have hn1 : r.2.2.2.2.1 0 = n := k1.2.trans hn
  simp only [zb_Ng, hn1, k1.1, g1, g2, g3, g4, g5, if_true]
  refine zb_Wbind2 w (fun q hq => ?_)
  exact zb_Wpos (by rw [hq.1]) (zb_b1919 h hq.2.1 hq.2.2)
theorem zb_s_ships (h : zb_St k n kc P s) : zb_W (F_La_law_b1329 kc (zb_n k) s) P := by
  have g1 : sv_ib (zb_n k + (1 : Int32)) n = true := zb_gs h 1 (by omega)
  have g2 : sv_ib (zb_n k + (2 : Int32)) n = true := zb_gs h 2 (by omega)
  have hn := h.2.2.2.1
  unfold F_La_law_b1329
  simp only [zb_Ng, hn, g1, g2, if_true]
  refine zb_Wbind2 (zb_c_ships h.1) (fun r hr => ?_)
  obtain ⟨k1, w⟩ := hr
  have hn1 : r.2.2.2.2.1 0 = n := k1.2.trans hn
  simp only [zb_Ng, hn1, k1.1, g1, g2, if_true]
  refine zb_Wbind2 w (fun q hq => ?_)
  exact zb_Wpos (by rw [hq.1]) (zb_b1919 h hq.2.1 hq.2.2)
theorem zb_s_takings (h : zb_St k n kc P s) : zb_W (F_La_law_b1362 kc (zb_n k) s) P := by
  have g1 : sv_ib (zb_n k + (1 : Int32)) n = true := zb_gs h 1 (by omega)
  have g2 : sv_ib (zb_n k + (2 : Int32)) n = true := zb_gs h 2 (by omega)
  have hn := h.2.2.2.1
  unfold F_La_law_b1362
  simp only [zb_Ng, hn, g1, g2, if_true]
  refine zb_Wbind2 (zb_c_takings h.1) (fun r hr => ?_)
  obtain ⟨k1, w⟩ := hr
  have hn1 : r.2.2.2.2.1 0 = n := k1.2.trans hn
  simp only [zb_Ng, hn1, k1.1, g1, g2, if_true]
  refine zb_Wbind2 w (fun q hq => ?_)
  exact zb_Wpos (by rw [hq.1]) (zb_b1919 h hq.2.1 hq.2.2)
theorem zb_s_tries (h : zb_St k n kc P s) : zb_W (F_La_law_b1395 kc (zb_n k) s) P := by
  have g1 : sv_ib (zb_n k + (1 : Int32)) n = true := zb_gs h 1 (by omega)
  have g2 : sv_ib (zb_n k + (2 : Int32)) n = true := zb_gs h 2 (by omega)
  have g3 : sv_ib (zb_n k + (3 : Int32)) n = true := zb_gs h 3 (by omega)
  have hn := h.2.2.2.1
  unfold F_La_law_b1395
  simp only [zb_Ng, hn, g1, g2, g3, if_true]
  refine zb_Wbind2 (zb_c_tries h.1) (fun r hr => ?_)
  obtain ⟨k1, w⟩ := hr
  have hn1 : r.2.2.2.2.1 0 = n := k1.2.trans hn
  simp only [zb_Ng, hn1, k1.1, g1, g2, g3, if_true]
  refine zb_Wbind2 w (fun q hq => ?_)
  exact zb_Wpos (by rw [hq.1]) (zb_b1919 h hq.2.1 hq.2.2)
theorem zb_s_list (h : zb_St k n kc P s) : zb_W (F_La_law_b1438 kc (zb_n k) s) P := by
  have g1 : sv_ib (zb_n k + (1 : Int32)) n = true := zb_gs h 1 (by omega)
  have hn := h.2.2.2.1
  unfold F_La_law_b1438
  simp only [zb_Ng, hn, g1, if_true]
  refine zb_Wbind2 (zb_c_list h.1) (fun r hr => ?_)
  obtain ⟨k1, w⟩ := hr
  have hn1 : r.2.2.2.2.1 0 = n := k1.2.trans hn
  simp only [zb_Ng, hn1, k1.1, g1, if_true]
  refine zb_Wbind2 w (fun q hq => ?_)
  exact zb_Wpos (by rw [hq.1]) (zb_b1919 h hq.2.1 hq.2.2)
theorem zb_s_listless (h : zb_St k n kc P s) : zb_W (F_La_law_b1461 kc (zb_n k) s) P := by
  have hn := h.2.2.2.1
  unfold F_La_law_b1461
  refine zb_Wbind2 (zb_c_listless h.1) (fun r hr => ?_)
  obtain ⟨k1, w⟩ := hr
  have hn1 : r.2.2.2.2.1 0 = n := k1.2.trans hn
  refine zb_Wbind2 w (fun q hq => ?_)
  exact zb_Wpos (by rw [hq.1]) (zb_b1919 h hq.2.1 hq.2.2)
theorem zb_s_change (h : zb_St k n kc P s) : zb_W (F_La_law_b1474 kc (zb_n k) s) P := by
  have g1 : sv_ib (zb_n k + (1 : Int32)) n = true := zb_gs h 1 (by omega)
  have hn := h.2.2.2.1
  unfold F_La_law_b1474
  simp only [zb_Ng, hn, g1, if_true]
  refine zb_Wbind2 (zb_c_change h.1) (fun r hr => ?_)
  obtain ⟨k1, w⟩ := hr
  have hn1 : r.2.2.2.2.1 0 = n := k1.2.trans hn
  simp only [zb_Ng, hn1, k1.1, g1, if_true]
  refine zb_Wbind2 w (fun q hq => ?_)
  exact zb_Wpos (by rw [hq.1]) (zb_b1919 h hq.2.1 hq.2.2)
theorem zb_s_friends (h : zb_St k n kc P s) : zb_W (F_La_law_b1497 kc (zb_n k) s) P := by
  have g1 : sv_ib (zb_n k + (1 : Int32)) n = true := zb_gs h 1 (by omega)
  have g2 : sv_ib (zb_n k + (2 : Int32)) n = true := zb_gs h 2 (by omega)
  have g3 : sv_ib (zb_n k + (3 : Int32)) n = true := zb_gs h 3 (by omega)
  have g4 : sv_ib (zb_n k + (4 : Int32)) n = true := zb_gs h 4 (by omega)
  have g5 : sv_ib (zb_n k + (5 : Int32)) n = true := zb_gs h 5 (by omega)
  have g6 : sv_ib (zb_n k + (6 : Int32)) n = true := zb_gs h 6 (by omega)
  have g7 : sv_ib (zb_n k + (7 : Int32)) n = true := zb_gs h 7 (by omega)
  have hn := h.2.2.2.1
  unfold F_La_law_b1497
  simp only [zb_Ng, hn, g1, g2, g3, g4, g5, g6, g7, if_true]
  refine zb_Wbind2 (zb_c_friends h.1) (fun r hr => ?_)
  obtain ⟨k1, w⟩ := hr
  have hn1 : r.2.2.2.2.1 0 = n := k1.2.trans hn
  simp only [zb_Ng, hn1, k1.1, g1, g2, g3, g4, g5, g6, g7, if_true]
  refine zb_Wbind2 w (fun q hq => ?_)
  exact zb_Wpos (by rw [hq.1]) (zb_b1919 h hq.2 k1)
theorem zb_s_act (h : zb_St k n kc P s) : zb_W (F_La_law_b1584 kc (zb_n k) s) P := by
  have g1 : sv_ib (zb_n k + (1 : Int32)) n = true := zb_gs h 1 (by omega)
  have g2 : sv_ib (zb_n k + (2 : Int32)) n = true := zb_gs h 2 (by omega)
  have g3 : sv_ib (zb_n k + (3 : Int32)) n = true := zb_gs h 3 (by omega)
  have hn := h.2.2.2.1
  unfold F_La_law_b1584
  simp only [zb_Ng, hn, g1, g2, g3, if_true]
  refine zb_Wbind2 (zb_c_act h.1) (fun r hr => ?_)
  obtain ⟨k1, w⟩ := hr
  have hn1 : r.2.2.2.2.1 0 = n := k1.2.trans hn
  simp only [zb_Ng, hn1, k1.1, g1, g2, g3, if_true]
  refine zb_Wbind2 w (fun q hq => ?_)
  exact zb_Wpos (by rw [hq.1]) (zb_b1919 h hq.2.1 hq.2.2)
theorem zb_s_trace (h : zb_St k n kc P s) : zb_W (F_La_law_b1627 kc (zb_n k) s) P := by
  have g1 : sv_ib (zb_n k + (1 : Int32)) n = true := zb_gs h 1 (by omega)
  have hn := h.2.2.2.1
  unfold F_La_law_b1627
  simp only [zb_Ng, hn, g1, if_true]
  refine zb_Wbind2 (zb_c_trace h.1) (fun r w => ?_)
  refine zb_Wbind2 w (fun q hq => ?_)
  exact zb_Wpos (by rw [hq]) (zb_b1919 h h.1 (zb_keep_refl _))
theorem zb_s_taken (h : zb_St k n kc P s) : zb_W (F_La_law_b1650 kc (zb_n k) s) P := by
  have g1 : sv_ib (zb_n k + (1 : Int32)) n = true := zb_gs h 1 (by omega)
  have g2 : sv_ib (zb_n k + (2 : Int32)) n = true := zb_gs h 2 (by omega)
  have hn := h.2.2.2.1
  unfold F_La_law_b1650
  simp only [zb_Ng, hn, g1, g2, if_true]
  refine zb_Wbind2 (zb_c_taken h.1) (fun r w => ?_)
  refine zb_Wbind2 w (fun q hq => ?_)
  exact zb_Wpos (by rw [hq]) (zb_b1919 h h.1 (zb_keep_refl _))
theorem zb_s_count (h : zb_St k n kc P s) : zb_W (F_La_law_b1683 kc (zb_n k) s) P := by
  have g1 : sv_ib (zb_n k + (1 : Int32)) n = true := zb_gs h 1 (by omega)
  have hn := h.2.2.2.1
  unfold F_La_law_b1683
  simp only [zb_Ng, hn, g1, if_true]
  refine zb_Wbind2 (zb_c_count h.1) (fun r w => ?_)
  refine zb_Wbind2 w (fun q hq => ?_)
  exact zb_Wpos (by rw [hq]) (zb_b1919 h h.1 (zb_keep_refl _))
theorem zb_s_tape (h : zb_St k n kc P s) : zb_W (F_La_law_b1706 kc (zb_n k) s) P := by
  have g1 : sv_ib (zb_n k + (1 : Int32)) n = true := zb_gs h 1 (by omega)
  have g2 : sv_ib (zb_n k + (2 : Int32)) n = true := zb_gs h 2 (by omega)
  have g3 : sv_ib (zb_n k + (3 : Int32)) n = true := zb_gs h 3 (by omega)
  have hn := h.2.2.2.1
  unfold F_La_law_b1706
  simp only [zb_Ng, hn, g1, g2, g3, if_true]
  refine zb_Wbind2 (zb_c_tape h.1) (fun r hr => ?_)
  obtain ⟨k1, w⟩ := hr
  have hn1 : r.2.2.2.2.1 0 = n := k1.2.trans hn
  simp only [zb_Ng, hn1, k1.1, g1, g2, g3, if_true]
  refine zb_Wbind2 w (fun q hq => ?_)
  exact zb_Wpos (by rw [hq.1]) (zb_b1919 h hq.2.1 hq.2.2)
theorem zb_s_item (h : zb_St k n kc P s) : zb_W (F_La_law_b1749 kc (zb_n k) s) P := by
  have g1 : sv_ib (zb_n k + (1 : Int32)) n = true := zb_gs h 1 (by omega)
  have g2 : sv_ib (zb_n k + (2 : Int32)) n = true := zb_gs h 2 (by omega)
  have g3 : sv_ib (zb_n k + (3 : Int32)) n = true := zb_gs h 3 (by omega)
  have g4 : sv_ib (zb_n k + (4 : Int32)) n = true := zb_gs h 4 (by omega)
  have hn := h.2.2.2.1
  unfold F_La_law_b1749
  simp only [zb_Ng, hn, g1, g2, g3, g4, if_true]
  refine zb_Wbind2 (zb_c_item h.1) (fun r hr => ?_)
  obtain ⟨k1, w⟩ := hr
  have hn1 : r.2.2.2.2.1 0 = n := k1.2.trans hn
  simp only [zb_Ng, hn1, k1.1, g1, g2, g3, g4, if_true]
  refine zb_Wbind2 w (fun q hq => ?_)
  exact zb_Wpos (by rw [hq.1]) (zb_b1919 h hq.2.1 hq.2.2)
theorem zb_s_read (h : zb_St k n kc P s) : zb_W (F_La_law_b1822 kc (zb_n k) s) P := by
  have g1 : sv_ib (zb_n k + (1 : Int32)) n = true := zb_gs h 1 (by omega)
  have g2 : sv_ib (zb_n k + (2 : Int32)) n = true := zb_gs h 2 (by omega)
  have hn := h.2.2.2.1
  unfold F_La_law_b1822
  simp only [zb_Ng, hn, g1, g2, if_true]
  refine zb_Wbind2 (zb_c_read h.1) (fun r w => ?_)
  refine zb_Wbind2 w (fun q hq => ?_)
  exact zb_Wpos (by rw [hq, zb_lg]) (zb_b1919 h h.1 (zb_keep_refl _))
theorem zb_s_shift (h : zb_St k n kc P s) : zb_W (F_La_law_b1856 kc (zb_n k) s) P := by
  have g1 : sv_ib (zb_n k + (1 : Int32)) n = true := zb_gs h 1 (by omega)
  have g2 : sv_ib (zb_n k + (2 : Int32)) n = true := zb_gs h 2 (by omega)
  have g3 : sv_ib (zb_n k + (3 : Int32)) n = true := zb_gs h 3 (by omega)
  have g4 : sv_ib (zb_n k + (4 : Int32)) n = true := zb_gs h 4 (by omega)
  have g5 : sv_ib (zb_n k + (5 : Int32)) n = true := zb_gs h 5 (by omega)
  have hn := h.2.2.2.1
  unfold F_La_law_b1856
  simp only [zb_Ng, hn, g1, g2, g3, g4, g5, if_true]
  refine zb_Wbind2 (zb_c_shift h.1) (fun r hr => ?_)
  obtain ⟨k1, w⟩ := hr
  have hn1 : r.2.2.2.2.1 0 = n := k1.2.trans hn
  simp only [zb_Ng, hn1, k1.1, g1, g2, g3, g4, g5, if_true]
  refine zb_Wbind2 w (fun q hq => ?_)
  exact zb_Wpos (by rw [hq.1]) (zb_b1919 h hq.2.1 hq.2.2)
theorem zb_loop {n : Nat} (h : zb_J s) (hn : s.2.2.2.1 0 = n) (h4 : n ≤ 4096) : zb_W (F_La_law s) (fun q => q.1 = (1 : Int32) ∧ zb_J q.2) := by
  have key : ∀ (f k : Nat) (u : sv_S), n + 8 < 8 * f + k → k ≤ n + 8 → zb_J u → u.2.2.2.1 0 = n → zb_W (F_La_law_b18 f (zb_n k) u) (fun q => q.1 = (1 : Int32) ∧ zb_J q.2) := by
    intro f
    induction f with
    | zero => intro k u hk hk2; intro hu hl; exact absurd hk (by omega)
    | succ f ih =>
    intro k u hk hk2 hu hl
    simp only [F_La_law_b18]
    rw [zb_Ng, hl]
    have le : ((Int32.ofNat n) - (8 : Int32) < zb_n k) = ((n : Int) - 8 < k) := by
      rw [show Int32.ofNat n = zb_i n from zb_n_i n, show (8 : Int32) = zb_i 8 from zb_n_i 8, zb_i_sub, zb_n_i k]
      exact zb_i_lt (by omega) (by omega) (by omega) (by omega)
    by_cases e : (n : Int) - 8 < k
    · exact zb_Wpos (by rw [le]; exact e) (zb_Wsome ⟨rfl, hu⟩)
    refine zb_Wneg (by rw [le]; exact e) (zb_Wpos (by rw [zb_ib_n (by omega)]; omega) (zb_Wlet ?_))
    have st : zb_St k n (F_La_law_b18 f) (fun q => q.1 = (1 : Int32) ∧ zb_J q.2) u := ⟨hu, by omega, h4, hl, fun v hv kv => ih (k + 8) v (by omega) (by omega) hv (kv.2.trans hl)⟩
    refine zb_Wif (fun _ => zb_s_pass st) (fun _ => ?_)
    refine zb_Wif (fun _ => zb_s_line st) (fun _ => ?_)
    refine zb_Wif (fun _ => zb_s_miles st) (fun _ => ?_)
    refine zb_Wif (fun _ => zb_s_way st) (fun _ => ?_)
    refine zb_Wif (fun _ => zb_s_feed st) (fun _ => ?_)
    refine zb_Wif (fun _ => zb_s_law st) (fun _ => ?_)
    refine zb_Wif (fun _ => zb_s_holds st) (fun _ => ?_)
    refine zb_Wif (fun _ => zb_s_rate st) (fun _ => ?_)
    refine zb_Wif (fun _ => zb_s_special st) (fun _ => ?_)
    refine zb_Wif (fun _ => zb_s_withdraw st) (fun _ => ?_)
    refine zb_Wif (fun _ => zb_s_set st) (fun _ => ?_)
    refine zb_Wif (fun _ => zb_s_undo st) (fun _ => ?_)
    refine zb_Wif (fun _ => zb_s_of st) (fun _ => ?_)
    refine zb_Wif (fun _ => zb_s_charge st) (fun _ => ?_)
    refine zb_Wif (fun _ => zb_s_most st) (fun _ => ?_)
    refine zb_Wif (fun _ => zb_s_part st) (fun _ => ?_)
    refine zb_Wif (fun _ => zb_s_truck st) (fun _ => ?_)
    refine zb_Wif (fun _ => zb_s_book st) (fun _ => ?_)
    refine zb_Wif (fun _ => zb_s_ended st) (fun _ => ?_)
    refine zb_Wif (fun _ => zb_s_due st) (fun _ => ?_)
    refine zb_Wif (fun _ => zb_s_unlike st) (fun _ => ?_)
    refine zb_Wif (fun _ => zb_s_unlikes st) (fun _ => ?_)
    refine zb_Wif (fun _ => zb_s_suit st) (fun _ => ?_)
    refine zb_Wif (fun _ => zb_s_cheap st) (fun _ => ?_)
    refine zb_Wif (fun _ => zb_s_cry st) (fun _ => ?_)
    refine zb_Wif (fun _ => zb_s_want st) (fun _ => ?_)
    refine zb_Wif (fun _ => zb_s_ships st) (fun _ => ?_)
    refine zb_Wif (fun _ => zb_s_takings st) (fun _ => ?_)
    refine zb_Wif (fun _ => zb_s_tries st) (fun _ => ?_)
    refine zb_Wif (fun _ => zb_s_list st) (fun _ => ?_)
    refine zb_Wif (fun _ => zb_s_listless st) (fun _ => ?_)
    refine zb_Wif (fun _ => zb_s_change st) (fun _ => ?_)
    refine zb_Wif (fun _ => zb_s_friends st) (fun _ => ?_)
    refine zb_Wif (fun _ => zb_s_act st) (fun _ => ?_)
    refine zb_Wif (fun _ => zb_s_trace st) (fun _ => ?_)
    refine zb_Wif (fun _ => zb_s_taken st) (fun _ => ?_)
    refine zb_Wif (fun _ => zb_s_count st) (fun _ => ?_)
    refine zb_Wif (fun _ => zb_s_tape st) (fun _ => ?_)
    refine zb_Wif (fun _ => zb_s_item st) (fun _ => ?_)
    refine zb_Wif (fun _ => zb_s_read st) (fun _ => ?_)
    refine zb_Wif (fun _ => zb_s_shift st) (fun _ => ?_)
    exact zb_b1919 st hu (zb_keep_refl _)
  unfold F_La_law
  exact key ss_F 0 s (by unfold ss_F; omega) (by omega) h hn
end LOP
