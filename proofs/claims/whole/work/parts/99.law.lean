/-! law -/
/-- one cell more -/
def zb_oc (h h' : sv_H) (k ln n : Nat) : Prop := (∀ c, c ≠ sv_nx h → (∀ j, h'.1 c j = h.1 c j ∧ h'.2.1 c j = h.2.1 c j ∧ h'.2.2.1 c j = h.2.2.1 c j) ∧ sv_ln h' c = sv_ln h c ∧ sv_kd h' c = sv_kd h c) ∧ sv_ln h' (sv_nx h) = ln ∧ sv_kd h' (sv_nx h) = k ∧ sv_nx h' = sv_nx h + 1 ∧ sv_sl h' = sv_sl h + n
section OC
variable {h : sv_H} {b e : Nat}
theorem zb_hI_ne {c k a j : Nat} {v : Int32} (q : ¬ (a = c ∧ j = k)) : (sv_setI h c k v).1 a j = h.1 a j := if_neg q
theorem zb_hI_eq {c k : Nat} {v : Int32} : (sv_setI h c k v).1 c k = v := if_pos ⟨rfl, rfl⟩
theorem zb_hR_1 {c k : Nat} {v : Option Nat} : (sv_setR h c k v).1 = h.1 := rfl
theorem zb_oc_mk {k ln n : Nat} : zb_oc h (sv_mk h k ln n) k ln n ∧ ∀ j, (sv_mk h k ln n).2.2.1 (sv_nx h) j = none :=
  ⟨⟨fun c hc => ⟨fun j => ⟨if_neg hc, if_neg hc, if_neg hc⟩, if_neg hc, if_neg hc⟩, if_pos rfl, if_pos rfl, rfl, rfl⟩, fun j => if_pos rfl⟩
theorem zb_oc_mkc {c : Nat} : zb_oc h (sv_mkc h c) 20 (sv_ln h c) (sv_ln h c) ∧ ∀ j, (sv_mkc h c).1 (sv_nx h) j = h.1 c j :=
  ⟨⟨fun c hc => ⟨fun j => ⟨if_neg hc, if_neg hc, if_neg hc⟩, if_neg hc, if_neg hc⟩, if_pos rfl, if_pos rfl, rfl, rfl⟩, fun j => if_pos rfl⟩
theorem zb_sdok {c k : Nat} (h1 : sv_kd h c = k) (h2 : 64 ≤ c) (h3 : c < sv_nx h) : sd_ok h c k = true := decide_eq_true ⟨h1, h2, h3⟩
theorem zb_cprI (hbe : b ≤ e) (he : e ≤ 140) (hk : sv_kd h 80 = 20) (hn : sv_ln h 80 = 140) (hx : 243 ≤ sv_nx h) : zb_W (FD_JA_copyOfRangeInt 80 (zb_n b) (zb_n e) h) (fun q => q.1 = sv_nx h ∧ zb_oc h q.2 20 (e - b) (e - b) ∧ ∀ j, j < e - b → q.2.1 (sv_nx h) j = h.1 80 (b + j)) := by
  have o := zb_oc_mk (h := h) (k := 20) (ln := e - b) (n := e - b)
  have n80 : (80 : Nat) ≠ sv_nx h := by omega
  obtain ⟨o80, o80l, o80k⟩ := o.1.1 80 n80
  unfold FD_JA_copyOfRangeInt FD_JA_checkLength
  rw [if_pos (by rw [zb_n_le (by omega) (by omega)]; exact hbe)]
  refine zb_Wbind (zb_Wsome (zb_Wlet ?_))
  rw [zb_n_sub hbe]
  refine zb_Wpos ?_ (zb_Wlet (zb_Wlet ?_))
  · unfold sd_nb
    rw [zb_n_ix (by omega)]
    refine decide_eq_true ⟨?_, by omega⟩
    rw [show (0 : Int32) = zb_n 0 from rfl, zb_n_lt (by omega) (by omega)]; omega
  rw [zb_n_ix (by omega)]
  generalize hs5 : sv_mk h 20 (e - b) (e - b) = s5 at *
  have nx5 : sv_nx s5 = sv_nx h + 1 := o.1.2.2.2.1
  refine zb_Wpos (zb_sdok (o80k.trans hk) (by omega) (by omega)) ?_
  have emin : FD_JM_min (Int32.ofNat (sv_ln s5 80) - zb_n b) (zb_n (e - b)) s5 = some (zb_n (e - b), s5) := by
    unfold FD_JM_min
    rw [o80l, hn, show Int32.ofNat 140 = zb_n 140 from rfl, zb_n_sub (by omega)]
    by_cases q : e - b < 140 - b
    · rw [if_pos (by rw [zb_n_lt (by omega) (by omega)]; exact q)]
    · rw [if_neg (by rw [zb_n_lt (by omega) (by omega)]; exact q), show 140 - b = e - b by omega]
  rw [emin]
  refine zb_Wbind (zb_Wsome ?_)
  dsimp only
  refine zb_Wpos (zb_sdok (o80k.trans hk) (by omega) (by omega)) (zb_Wpos (zb_sdok o.1.2.2.1 (by omega) (by omega)) (zb_Wpos ?_ (zb_Wlet (zb_Wsome ⟨rfl, ⟨fun c hc => ⟨fun j => ?_, ?_, ?_⟩, o.1.2.1, o.1.2.2.1, nx5, o.1.2.2.2.2⟩, fun j hj => ?_⟩))))
  · have l0 : (0 : Int32).toNatClampNeg = 0 := rfl
    have nb : ∀ m : Nat, m ≤ 200 → ¬ zb_n m < (0 : Int32) := fun m hm => by rw [show (0 : Int32) = zb_n 0 from rfl, zb_n_lt (by omega) (by omega)]; omega
    refine decide_eq_true ⟨nb b (by omega), by decide, nb (e - b) (by omega), ?_, ?_⟩
    · rw [zb_n_ix (by omega), zb_n_ix (by omega)]
      show b + (e - b) ≤ sv_ln s5 80
      rw [o80l, hn]; omega
    · rw [zb_n_ix (by omega), l0]
      show 0 + (e - b) ≤ sv_ln s5 (sv_nx h)
      rw [o.1.2.1]; omega
  · have := (o.1.1 c hc).1 j
    exact ⟨(if_neg hc).trans this.1, this.2.1, this.2.2⟩
  · exact (o.1.1 c hc).2.1
  · exact (o.1.1 c hc).2.2
  · show (if sv_nx h = sv_nx h then va_cpy (s5.1 80) (s5.1 (sv_nx h)) (zb_n b).toNatClampNeg (0 : Int32).toNatClampNeg (zb_n (e - b)).toNatClampNeg j else s5.1 (sv_nx h) j) = h.1 80 (b + j)
    rw [if_pos rfl, zb_n_ix (by omega), zb_n_ix (by omega), show (0 : Int32).toNatClampNeg = 0 from rfl]
    unfold va_cpy
    rw [if_pos (by omega), (o80 _).1, Nat.sub_zero]
theorem zb_cpr (hbe : b ≤ e) (he : e ≤ 140) (hk : sv_kd h 80 = 20) (hn : sv_ln h 80 = 140) (hx : 243 ≤ sv_nx h) : zb_W (FD_JA_copyOfRange 80 (zb_n b) (zb_n e) h) (fun q => q.1 = sv_nx h ∧ zb_oc h q.2 20 (e - b) (e - b) ∧ ∀ j, j < e - b → q.2.1 (sv_nx h) j = h.1 80 (b + j)) := by
  have i := zb_cprI hbe he hk hn hx
  have ok : sd_ok h 80 20 = true := zb_sdok hk (by omega) (by omega)
  unfold FD_JA_copyOfRange
  have e0 : (zb_n b = (0 : Int32)) = (b = 0) := zb_n_eq (b := 0) (by omega) (by omega)
  have e1 : (zb_n e = Int32.ofNat (sv_ln h 80)) = (e = 140) := by rw [hn]; exact zb_n_eq (b := 140) (by omega) (by omega)
  simp only [e0, e1]
  refine zb_Wif (fun q0 => zb_Wpos ok (zb_Wif (fun q1 => zb_Wpos ok (zb_Wlet (zb_Wlet ?_))) (fun q1 => zb_Wbind2 i (fun r hr => zb_Wsome hr)))) (fun q0 => zb_Wbind2 i (fun r hr => zb_Wsome hr))
  have o := zb_oc_mkc (h := h) (c := 80)
  rw [hn] at o
  refine zb_Wpos (zb_sdok o.1.2.2.1 (by omega) (by rw [o.1.2.2.2.1]; omega)) (zb_Wsome ⟨rfl, ?_, fun j hj => ?_⟩)
  · rw [show e - b = 140 by omega]; exact o.1
  · rw [q0, Nat.zero_add]; exact o.2 j
end OC
section LAD
variable {s : sv_S} {x1 x2 : Int32} {K b1 e1 b2 e2 : Nat}
theorem zb_K243 {c : Nat} (h : c < 243) : ss_K c = ss_kdL.getD c 99 := if_pos h
theorem zb_Nold {l : Nat → Nat} {c : Nat} (h : c < 243) (h0 : c ≠ 0) : ss_N l c = ss_lnL.getD c 0 := by unfold ss_N; rw [if_neg h0, if_pos h]
theorem zb_Nnew {l : Nat → Nat} {c : Nat} (h : 243 ≤ c) : ss_N l c = l c := by unfold ss_N; rw [if_neg (by omega), if_neg (by omega)]
theorem zb_Ls_add (hK : K < 16) (e81 : s.1 81 4 = zb_n K) (hc : s.2.2.2.2.1 = 4 * K) (h6 : s.1 77 6 = zb_n b1) (h7 : s.1 77 7 = zb_n e1) (h8 : s.1 77 8 = zb_n b2) (h9 : s.1 77 9 = zb_n e2) (l1 : b1 ≤ e1) (m1 : e1 ≤ 140) (l2 : b2 ≤ e2) (m2 : e2 ≤ 140) :
    zb_W (F_Ls_add x1 x2 s) (fun r => r.1 = zb_n K ∧ (∀ c j, c < 243 + 4 * K → ¬ (c = 81 ∧ (j = 3 ∨ j = 4)) → r.2.1 c j = s.1 c j) ∧ r.2.1 81 3 = zb_i (-1) ∧ r.2.1 81 4 = zb_n (K + 1) ∧ r.2.1 (243 + 4 * K) 0 = zb_n K ∧ r.2.1 (243 + 4 * K) 1 = x1 ∧ r.2.1 (243 + 4 * K) 2 = x2 ∧ (∀ i, r.2.1 (244 + 4 * K) i = s.1 79 i) ∧ (∀ i, i < e1 - b1 → r.2.1 (245 + 4 * K) i = s.1 80 (b1 + i)) ∧ (∀ i, i < e2 - b2 → r.2.1 (246 + 4 * K) i = s.1 80 (b2 + i)) ∧ (∀ c j, c < 243 + 4 * K → r.2.2.1 c j = s.2.1 c j) ∧ (∀ j, j ≠ K → r.2.2.2.1 82 j = s.2.2.1 82 j) ∧ r.2.2.2.1 82 K = 243 + 4 * K ∧ r.2.2.2.2.1 0 = s.2.2.2.1 0 ∧ (∀ c, 243 ≤ c → c < 243 + 4 * K → r.2.2.2.2.1 c = s.2.2.2.1 c) ∧ r.2.2.2.2.1 (244 + 4 * K) = 40 ∧ r.2.2.2.2.1 (245 + 4 * K) = e1 - b1 ∧ r.2.2.2.2.1 (246 + 4 * K) = e2 - b2 ∧ r.2.2.2.2.2.1 = 4 * (K + 1) ∧ r.2.2.2.2.2.2 = s.2.2.2.2.2 + 46 + (e1 - b1) + (e2 - b2)) := by
  -- the pictures on the way
  have nx0 : sv_nx (ss_e s) = 243 + 4 * K := by show 243 + s.2.2.2.2.1 = _; rw [hc]
  have sl0 : sv_sl (ss_e s) = 12508 + s.2.2.2.2.2 := rfl
  have kd0 : ∀ c, sv_kd (ss_e s) c = ss_K c := fun _ => rfl
  have ln0 : ∀ c, sv_ln (ss_e s) c = ss_N s.2.2.2.1 c := fun _ => rfl
  have rf0 : ∀ c j, (ss_e s).2.2.1 c j = ss_R s.2.2.1 c j := fun _ _ => rfl
  have i0 : ∀ c j, (ss_e s).1 c j = s.1 c j := fun _ _ => rfl
  have q0 : ∀ c j, (ss_e s).2.1 c j = s.2.1 c j := fun _ _ => rfl
  generalize hH0 : ss_e s = H0 at *
  have o5 := zb_oc_mk (h := H0) (k := 2) (ln := 0) (n := 6)
  generalize hH5 : sv_mk H0 2 0 6 = H5 at *
  have nx5 : sv_nx H5 = 244 + 4 * K := by have := o5.1.2.2.2.1; omega
  have g5 : ∀ c, c < 243 + 4 * K → (∀ j, H5.1 c j = s.1 c j ∧ H5.2.1 c j = s.2.1 c j ∧ H5.2.2.1 c j = ss_R s.2.2.1 c j) ∧ sv_ln H5 c = ss_N s.2.2.2.1 c ∧ sv_kd H5 c = ss_K c := by
    intro c hc'
    have := o5.1.1 c (by omega)
    exact ⟨fun j => ⟨(this.1 j).1.trans (i0 c j), (this.1 j).2.1.trans (q0 c j), (this.1 j).2.2.trans (rf0 c j)⟩, this.2.1.trans (ln0 c), this.2.2.trans (kd0 c)⟩
  have o11 := zb_oc_mkc (h := H5) (c := 79)
  generalize hH11 : sv_mkc H5 79 = H11 at *
  have nx11 : sv_nx H11 = 245 + 4 * K := by have := o11.1.2.2.2.1; omega
  have ln79 : sv_ln H5 79 = 40 := (g5 79 (by omega)).2.1
  have g11 : ∀ c, c < 243 + 4 * K → (∀ j, H11.1 c j = s.1 c j ∧ H11.2.1 c j = s.2.1 c j ∧ H11.2.2.1 c j = ss_R s.2.2.1 c j) ∧ sv_ln H11 c = ss_N s.2.2.2.1 c ∧ sv_kd H11 c = ss_K c := by
    intro c hc'
    have := o11.1.1 c (by omega)
    have p := g5 c hc'
    exact ⟨fun j => ⟨(this.1 j).1.trans (p.1 j).1, (this.1 j).2.1.trans (p.1 j).2.1, (this.1 j).2.2.trans (p.1 j).2.2⟩, this.2.1.trans p.2.1, this.2.2.trans p.2.2⟩
  unfold F_Ls_add
  refine zb_Wbind ?_
  rw [hH0]
  -- FD_Ls_add
  have k81 : sv_kd H0 81 = 4 := kd0 81
  have ok : ∀ (h : sv_H) (c k : Nat), sv_kd h c = k → 64 ≤ c → c < sv_nx h → sd_ok h c k = true := fun h c k a b d => zb_sdok a b d
  unfold FD_Ls_add
  refine zb_Wpos (ok _ _ _ k81 (by omega) (by omega)) ?_
  rw [rf0 81 0, show ss_R s.2.2.1 81 0 = some 82 from rfl]
  refine zb_Wbind (zb_Wsome (zb_Wpos (ok _ _ _ k81 (by omega) (by omega)) (zb_Wlet (zb_Wlet ?_))))
  rw [hH5, nx0]
  have k81' : sv_kd H5 81 = 4 := (g5 81 (by omega)).2.2
  have k77 : sv_kd H5 77 = 3 := (g5 77 (by omega)).2.2
  have k79 : sv_kd H5 79 = 20 := (g5 79 (by omega)).2.2
  refine zb_Wpos (ok _ _ _ k81' (by omega) (by omega)) (zb_Wpos (ok _ _ _ k77 (by omega) (by omega)) ?_)
  rw [((g5 77 (by omega)).1 1).2.2, show ss_R s.2.2.1 77 1 = some 79 from rfl]
  refine zb_Wbind (zb_Wsome (zb_Wpos (ok _ _ _ k79 (by omega) (by omega)) (zb_Wlet (zb_Wlet ?_))))
  rw [hH11, nx5]
  have kn1 : sv_kd H11 (244 + 4 * K) = 20 := by have := o11.1.2.2.1; rw [nx5] at this; exact this
  have k77' : sv_kd H11 77 = 3 := (g11 77 (by omega)).2.2
  refine zb_Wpos (ok _ _ _ kn1 (by omega) (by omega)) (zb_Wpos (ok _ _ _ k77' (by omega) (by omega)) ?_)
  -- the same steps
  have sd1 : zb_W (FD_Lt_sameSteps 77 H11) (fun q => q.1 = sv_nx H11 ∧ zb_oc H11 q.2 20 (e1 - b1) (e1 - b1) ∧ ∀ j, j < e1 - b1 → q.2.1 (sv_nx H11) j = H11.1 80 (b1 + j)) := by
    unfold FD_Lt_sameSteps
    refine zb_Wpos (ok _ _ _ k77' (by omega) (by omega)) ?_
    rw [((g11 77 (by omega)).1 2).2.2, show ss_R s.2.2.1 77 2 = some 80 from rfl]
    refine zb_Wbind (zb_Wsome (zb_Wpos (ok _ _ _ k77' (by omega) (by omega)) (zb_Wpos (ok _ _ _ k77' (by omega) (by omega)) ?_)))
    rw [((g11 77 (by omega)).1 6).1, ((g11 77 (by omega)).1 7).1, h6, h7]
    exact zb_Wbind2 (zb_cpr l1 m1 (g11 80 (by omega)).2.2 (g11 80 (by omega)).2.1 (by omega)) (fun r hr => zb_Wsome hr)
  refine zb_Wbind2 sd1 (fun r15 hr15 => ?_)
  obtain ⟨p1, o15, p2⟩ := hr15
  have nx15 : sv_nx r15.2 = 246 + 4 * K := by have := o15.2.2.2.1; omega
  have g15 : ∀ c, c < 243 + 4 * K → (∀ j, r15.2.1 c j = s.1 c j ∧ r15.2.2.1 c j = s.2.1 c j ∧ r15.2.2.2.1 c j = ss_R s.2.2.1 c j) ∧ sv_ln r15.2 c = ss_N s.2.2.2.1 c ∧ sv_kd r15.2 c = ss_K c := by
    intro c hc'
    have := o15.1 c (by omega)
    have p := g11 c hc'
    exact ⟨fun j => ⟨(this.1 j).1.trans (p.1 j).1, (this.1 j).2.1.trans (p.1 j).2.1, (this.1 j).2.2.trans (p.1 j).2.2⟩, this.2.1.trans p.2.1, this.2.2.trans p.2.2⟩
  have k77'' : sv_kd r15.2 77 = 3 := (g15 77 (by omega)).2.2
  refine zb_Wpos (ok _ _ _ k77'' (by omega) (by omega)) ?_
  have sd2 : zb_W (FD_Lt_excuseSteps 77 r15.2) (fun q => q.1 = sv_nx r15.2 ∧ zb_oc r15.2 q.2 20 (e2 - b2) (e2 - b2) ∧ ∀ j, j < e2 - b2 → q.2.1 (sv_nx r15.2) j = r15.2.1 80 (b2 + j)) := by
    unfold FD_Lt_excuseSteps
    refine zb_Wpos (ok _ _ _ k77'' (by omega) (by omega)) ?_
    rw [((g15 77 (by omega)).1 2).2.2, show ss_R s.2.2.1 77 2 = some 80 from rfl]
    refine zb_Wbind (zb_Wsome (zb_Wpos (ok _ _ _ k77'' (by omega) (by omega)) (zb_Wpos (ok _ _ _ k77'' (by omega) (by omega)) ?_)))
    rw [((g15 77 (by omega)).1 8).1, ((g15 77 (by omega)).1 9).1, h8, h9]
    exact zb_Wbind2 (zb_cpr l2 m2 (g15 80 (by omega)).2.2 (g15 80 (by omega)).2.1 (by omega)) (fun r hr => zb_Wsome hr)
  refine zb_Wbind2 sd2 (fun r17 hr17 => ?_)
  obtain ⟨u1, o17, u2⟩ := hr17
  have nx17 : sv_nx r17.2 = 247 + 4 * K := by have := o17.2.2.2.1; omega
  have g17 : ∀ c, c < 243 + 4 * K → (∀ j, r17.2.1 c j = s.1 c j ∧ r17.2.2.1 c j = s.2.1 c j ∧ r17.2.2.2.1 c j = ss_R s.2.2.1 c j) ∧ sv_ln r17.2 c = ss_N s.2.2.2.1 c ∧ sv_kd r17.2 c = ss_K c := by
    intro c hc'
    have := o17.1 c (by omega)
    have p := g15 c hc'
    exact ⟨fun j => ⟨(this.1 j).1.trans (p.1 j).1, (this.1 j).2.1.trans (p.1 j).2.1, (this.1 j).2.2.trans (p.1 j).2.2⟩, this.2.1.trans p.2.1, this.2.2.trans p.2.2⟩
  -- the new cells behind them
  have cK : sv_kd r17.2 (243 + 4 * K) = 2 ∧ sv_ln r17.2 (243 + 4 * K) = 0 ∧ ∀ j, r17.2.2.2.1 (243 + 4 * K) j = none := by
    have a := o5.1.2.2.1; have b := o5.1.2.1; have c := o5.2
    rw [nx0] at a b c
    have d1 := o11.1.1 (243 + 4 * K) (by omega)
    have d2 := o15.1 (243 + 4 * K) (by omega)
    have d3 := o17.1 (243 + 4 * K) (by omega)
    exact ⟨by rw [d3.2.2, d2.2.2, d1.2.2]; exact a, by rw [d3.2.1, d2.2.1, d1.2.1]; exact b, fun j => by rw [(d3.1 j).2.2, (d2.1 j).2.2, (d1.1 j).2.2]; exact c j⟩
  have c1 : sv_kd r17.2 (244 + 4 * K) = 20 ∧ sv_ln r17.2 (244 + 4 * K) = 40 ∧ ∀ j, r17.2.1 (244 + 4 * K) j = s.1 79 j := by
    have a := o11.1.2.2.1; have b := o11.1.2.1; have c := o11.2
    rw [nx5] at a b c
    have d2 := o15.1 (244 + 4 * K) (by omega)
    have d3 := o17.1 (244 + 4 * K) (by omega)
    exact ⟨by rw [d3.2.2, d2.2.2]; exact a, by rw [d3.2.1, d2.2.1, b]; exact ln79, fun j => by rw [(d3.1 j).1, (d2.1 j).1, c j]; exact ((g5 79 (by omega)).1 j).1⟩
  have c2 : sv_kd r17.2 (245 + 4 * K) = 20 ∧ sv_ln r17.2 (245 + 4 * K) = e1 - b1 ∧ ∀ j, j < e1 - b1 → r17.2.1 (245 + 4 * K) j = s.1 80 (b1 + j) := by
    have a := o15.2.2.1; have b := o15.2.1
    rw [nx11] at a b p2
    have d3 := o17.1 (245 + 4 * K) (by omega)
    exact ⟨by rw [d3.2.2]; exact a, by rw [d3.2.1]; exact b, fun j hj => by rw [(d3.1 j).1, p2 j hj]; exact ((g11 80 (by omega)).1 _).1⟩
  have c3 : sv_kd r17.2 (246 + 4 * K) = 20 ∧ sv_ln r17.2 (246 + 4 * K) = e2 - b2 ∧ ∀ j, j < e2 - b2 → r17.2.1 (246 + 4 * K) j = s.1 80 (b2 + j) := by
    have a := o17.2.2.1; have b := o17.2.1
    rw [nx15] at a b u2
    exact ⟨a, b, fun j hj => by rw [u2 j hj]; exact ((g15 80 (by omega)).1 _).1⟩
  have sl17 : sv_sl r17.2 = 12508 + s.2.2.2.2.2 + 46 + (e1 - b1) + (e2 - b2) := by
    have a := o5.1.2.2.2.2; have b := o11.1.2.2.2.2; have c := o15.2.2.2.2; have d := o17.2.2.2.2
    rw [ln79] at b
    omega
  -- the law's own fields
  rw [p1, nx11, u1, nx15]
  unfold FD_Lw_init
  generalize r17.2 = G at *
  have okG : ∀ (h : sv_H) , sv_kd h = sv_kd G → sv_nx h = sv_nx G → sd_ok h (243 + 4 * K) 2 = true := fun h a b => zb_sdok (by rw [a]; exact cK.1) (by omega) (by rw [b]; omega)
  refine zb_Wbind (zb_Wpos (okG _ rfl rfl) (zb_Wlet (zb_Wpos (okG _ rfl rfl) (zb_Wlet (zb_Wpos (okG _ rfl rfl) (zb_Wlet (zb_Wpos (okG _ rfl rfl) (zb_Wlet (zb_Wpos (okG _ rfl rfl) (zb_Wlet (zb_Wpos (okG _ rfl rfl) (zb_Wlet (zb_Wsome ?_)))))))))))))
  rw [((g5 81 (by omega)).1 4).1, i0 81 4, e81]
  generalize hV : sv_setR (sv_setR (sv_setR (sv_setI (sv_setI (sv_setI G (243 + 4 * K) 0 (zb_n K)) (243 + 4 * K) 1 x1) (243 + 4 * K) 2 x2) (243 + 4 * K) 3 (some (244 + 4 * K))) (243 + 4 * K) 4 (some (245 + 4 * K))) (243 + 4 * K) 5 (some (246 + 4 * K)) = V
  have Vk : sv_kd V = sv_kd G := by rw [← hV]; rfl
  have Vn : sv_nx V = sv_nx G := by rw [← hV]; rfl
  have Vl : sv_ln V = sv_ln G := by rw [← hV]; rfl
  have Vs : sv_sl V = sv_sl G := by rw [← hV]; rfl
  have Vq : V.2.1 = G.2.1 := by rw [← hV]; rfl
  have Vi : ∀ c j, c ≠ 243 + 4 * K → V.1 c j = G.1 c j := fun c j h => by
    rw [← hV]
    exact (zb_up_ne (fun z => h z.1)).trans ((zb_up_ne (fun z => h z.1)).trans (zb_up_ne (fun z => h z.1)))
  have Vi0 : V.1 (243 + 4 * K) 0 = zb_n K := by rw [← hV]; exact (zb_up_ne (by omega)).trans ((zb_up_ne (by omega)).trans zb_up_eq)
  have Vi1 : V.1 (243 + 4 * K) 1 = x1 := by rw [← hV]; exact (zb_up_ne (by omega)).trans zb_up_eq
  have Vi2 : V.1 (243 + 4 * K) 2 = x2 := by rw [← hV]; exact zb_up_eq
  have Vr : ∀ c j, c ≠ 243 + 4 * K → V.2.2.1 c j = G.2.2.1 c j := fun c j h => by
    rw [← hV]
    exact (zb_up_ne (fun z => h z.1)).trans ((zb_up_ne (fun z => h z.1)).trans (zb_up_ne (fun z => h z.1)))
  have Vr3 : ∀ j, j < 6 → V.2.2.1 (243 + 4 * K) j = if 3 ≤ j then some (243 + 4 * K + j - 2) else none := by
    intro j hj
    have : j = 0 ∨ j = 1 ∨ j = 2 ∨ j = 3 ∨ j = 4 ∨ j = 5 := by omega
    rw [← hV]
    rcases this with rfl | rfl | rfl | rfl | rfl | rfl
    · exact (zb_up_ne (by omega)).trans ((zb_up_ne (by omega)).trans ((zb_up_ne (by omega)).trans (cK.2.2 0)))
    · exact (zb_up_ne (by omega)).trans ((zb_up_ne (by omega)).trans ((zb_up_ne (by omega)).trans (cK.2.2 1)))
    · exact (zb_up_ne (by omega)).trans ((zb_up_ne (by omega)).trans ((zb_up_ne (by omega)).trans (cK.2.2 2)))
    · refine (zb_up_ne (by omega)).trans ((zb_up_ne (by omega)).trans (zb_up_eq.trans ?_)); rw [if_pos (by omega)]; congr 1; omega
    · refine (zb_up_ne (by omega)).trans (zb_up_eq.trans ?_); rw [if_pos (by omega)]; congr 1; omega
    · refine zb_up_eq.trans ?_; rw [if_pos (by omega)]; congr 1; omega
  have okV : ∀ (h : sv_H) (c k : Nat), sv_kd h = sv_kd V → sv_nx h = sv_nx V → sv_kd G c = k → 64 ≤ c → c < 247 + 4 * K → sd_ok h c k = true := fun h c k a b d e f => zb_sdok (by rw [a, Vk]; exact d) e (by rw [b, Vn]; omega)
  have kG81 : sv_kd G 81 = 4 := (g17 81 (by omega)).2.2
  have kG82 : sv_kd G 82 = 25 := (g17 82 (by omega)).2.2
  refine zb_Wpos (okV _ _ _ rfl rfl kG82 (by omega) (by omega)) (zb_Wpos (okV _ _ _ rfl rfl cK.1 (by omega) (by omega)) (zb_Wpos ?_ (zb_Wlet ?_)))
  · rw [zb_ib_n (by omega), Vl, (g17 82 (by omega)).2.1]; exact hK
  rw [zb_n_ix (by omega)]
  have V813 : ∀ w, (sv_setI (sv_setR V 82 K w) 81 3 (-1 : Int32)).1 81 4 = zb_n K := fun w => by rw [zb_hI_ne (by omega), zb_hR_1, Vi 81 4 (by omega), ((g17 81 (by omega)).1 4).1]; exact e81
  refine zb_Wpos (okV _ _ _ rfl rfl kG81 (by omega) (by omega)) (zb_Wlet (zb_Wpos (okV _ _ _ rfl rfl kG81 (by omega) (by omega)) (zb_Wpos (okV _ _ _ rfl rfl kG81 (by omega) (by omega)) (zb_Wlet (zb_Wsome ?_)))))
  rw [V813, show zb_n K + (1 : Int32) = zb_n (K + 1) from zb_n_add K 1]
  generalize hY : sv_setI (sv_setI (sv_setR V 82 K (some (243 + 4 * K))) 81 3 (-1 : Int32)) 81 4 (zb_n (K + 1)) = Y
  have Yk : sv_kd Y = sv_kd G := by rw [← hY]; exact Vk
  have Yn : sv_nx Y = 247 + 4 * K := by rw [← hY, ← nx17]; exact Vn
  have Yl : sv_ln Y = sv_ln G := by rw [← hY]; exact Vl
  have Ys : sv_sl Y = 12508 + s.2.2.2.2.2 + 46 + (e1 - b1) + (e2 - b2) := by rw [← hY, ← sl17]; exact Vs
  have Yq : Y.2.1 = G.2.1 := by rw [← hY]; exact Vq
  have Yi : ∀ c j, ¬ (c = 81 ∧ (j = 3 ∨ j = 4)) → Y.1 c j = V.1 c j := fun c j h => by rw [← hY]; exact (zb_up_ne (by omega)).trans (zb_up_ne (by omega))
  have Yr : ∀ c j, ¬ (c = 82 ∧ j = K) → Y.2.2.1 c j = V.2.2.1 c j := fun c j h => by rw [← hY]; exact zb_up_ne h
  have Yr82 : Y.2.2.1 82 K = some (243 + 4 * K) := by rw [← hY]; exact zb_up_eq
  have Y3 : Y.1 81 3 = (-1 : Int32) := by rw [← hY, zb_hI_ne (by omega), zb_hI_eq]
  have Y4 : Y.1 81 4 = zb_n (K + 1) := by rw [← hY, zb_hI_eq]
  -- what is read back is alike
  have sim : sv_sim Y (ss_e (ss_of Y)) := by
    have e1' : sv_nx (ss_e (ss_of Y)) = 243 + (sv_nx Y - 243) := rfl
    have e2' : sv_sl (ss_e (ss_of Y)) = 12508 + (sv_sl Y - 12508) := rfl
    refine ⟨by rw [e1', Yn]; omega, by rw [e2', Ys]; omega, fun c hc' => ⟨?_, ?_, fun j hj => ⟨rfl, rfl, fun hk => ?_⟩⟩⟩
    · show ss_K c = sv_kd Y c
      rw [Yk]
      by_cases w : c < 243 + 4 * K
      · exact (g17 c w).2.2.symm
      · rw [Yn] at hc'
        have : c = 243 + 4 * K ∨ c = 244 + 4 * K ∨ c = 245 + 4 * K ∨ c = 246 + 4 * K := by omega
        unfold ss_K
        rw [if_neg (by omega)]
        rcases this with rfl | rfl | rfl | rfl
        · rw [if_pos (by omega)]; exact cK.1.symm
        · rw [if_neg (by omega)]; exact c1.1.symm
        · rw [if_neg (by omega)]; exact c2.1.symm
        · rw [if_neg (by omega)]; exact c3.1.symm
    · show ss_N (sv_ln Y) c = sv_ln Y c
      by_cases w : c < 243
      · by_cases w0 : c = 0
        · unfold ss_N; rw [if_pos w0, w0]
        · rw [zb_Nold w w0, Yl, (g17 c (by omega)).2.1, zb_Nold w w0]
      · rw [zb_Nnew (by omega)]
    · show ss_R (fun c k => (Y.2.2.1 c k).getD 0) c j = Y.2.2.1 c j
      by_cases w82 : c = 82 ∨ c = 83
      · unfold ss_R
        rw [if_pos w82]
        by_cases w : c = 82 ∧ j = K
        · rw [w.1, w.2]
          show some ((Y.2.2.1 82 K).getD 0) = Y.2.2.1 82 K
          rw [Yr82]; rfl
        · have : Y.2.2.1 c j = some (s.2.2.1 c j) := by
            rw [Yr c j w, Vr c j (by omega), ((g17 c (by omega)).1 j).2.2]
            unfold ss_R; rw [if_pos w82]
          show some ((Y.2.2.1 c j).getD 0) = Y.2.2.1 c j
          rw [this]; rfl
      · have e3 : ss_R (fun c k => (Y.2.2.1 c k).getD 0) c j = ss_LR c j := by unfold ss_R; rw [if_neg w82]
        rw [e3, Yr c j (by omega)]
        by_cases w : c < 243 + 4 * K
        · rw [Vr c j (by omega), ((g17 c w).1 j).2.2]
          unfold ss_R; rw [if_neg w82]
        · rw [Yn] at hc'
          have : c = 243 + 4 * K ∨ c = 244 + 4 * K ∨ c = 245 + 4 * K ∨ c = 246 + 4 * K := by omega
          rw [Yk] at hj hk
          rcases this with rfl | rfl | rfl | rfl
          · rw [cK.1] at hj
            have hj6 : j < 6 := by rcases hj with hj | hj
                                   · exact hj
                                   · omega
            rw [Vr3 j hj6]
            unfold ss_LR
            rw [if_neg (by omega), if_neg (by omega)]
            by_cases w3 : 3 ≤ j
            · rw [if_pos w3, if_pos ⟨by omega, w3, by omega⟩]
            · rw [if_neg w3, if_neg (fun z => w3 z.2.1)]
          · rw [c1.1] at hk; exact absurd ⟨by omega, by omega⟩ hk
          · rw [c2.1] at hk; exact absurd ⟨by omega, by omega⟩ hk
          · rw [c3.1] at hk; exact absurd ⟨by omega, by omega⟩ hk
  show zb_W (@ite _ (sv_sim Y (ss_e (ss_of Y))) (Classical.propDecidable _) (some (zb_n K, ss_of Y)) none) _
  rw [if_pos sim]
  refine (zb_Wsome ⟨rfl, fun c j h1 h2 => ?_, ?_, Y4, ?_, ?_, ?_, fun i => ?_, fun i hi => ?_, fun i hi => ?_, fun c j h1 => ?_, fun j hj => ?_, ?_, ?_, fun c h1 h2 => ?_, ?_, ?_, ?_, ?_, ?_⟩)
  · show Y.1 c j = s.1 c j
    rw [Yi c j h2, Vi c j (by omega)]; exact ((g17 c h1).1 j).1
  · show Y.1 81 3 = zb_i (-1)
    rw [Y3]; exact zb_m1
  · show Y.1 (243 + 4 * K) 0 = _
    rw [Yi _ _ (by omega)]; exact Vi0
  · show Y.1 (243 + 4 * K) 1 = _
    rw [Yi _ _ (by omega)]; exact Vi1
  · show Y.1 (243 + 4 * K) 2 = _
    rw [Yi _ _ (by omega)]; exact Vi2
  · show Y.1 (244 + 4 * K) i = _
    rw [Yi _ _ (by omega), Vi _ _ (by omega)]; exact c1.2.2 i
  · show Y.1 (245 + 4 * K) i = _
    rw [Yi _ _ (by omega), Vi _ _ (by omega)]; exact c2.2.2 i hi
  · show Y.1 (246 + 4 * K) i = _
    rw [Yi _ _ (by omega), Vi _ _ (by omega)]; exact c3.2.2 i hi
  · show Y.2.1 c j = s.2.1 c j
    rw [Yq]; exact ((g17 c h1).1 j).2.1
  · show (Y.2.2.1 82 j).getD 0 = s.2.2.1 82 j
    rw [Yr 82 j (fun z => hj z.2), Vr 82 j (by omega), ((g17 82 (by omega)).1 j).2.2]; rfl
  · show (Y.2.2.1 82 K).getD 0 = _
    rw [Yr82]; rfl
  · show sv_ln Y 0 = s.2.2.2.1 0
    rw [Yl, (g17 0 (by omega)).2.1]; rfl
  · show sv_ln Y c = s.2.2.2.1 c
    rw [Yl, (g17 c h2).2.1, zb_Nnew h1]
  · show sv_ln Y (244 + 4 * K) = 40
    rw [Yl]; exact c1.2.1
  · show sv_ln Y (245 + 4 * K) = _
    rw [Yl]; exact c2.2.1
  · show sv_ln Y (246 + 4 * K) = _
    rw [Yl]; exact c3.2.1
  · show sv_nx Y - 243 = 4 * (K + 1)
    rw [Yn]; omega
  · show sv_sl Y - 12508 = _
    rw [Ys]; omega
end LAD
