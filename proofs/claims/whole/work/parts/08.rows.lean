/-! rows for the programs' own texts: decoded tables, names of numbers, guards, switches -/
abbrev sv_tk (b : ByteArray) (t : List (Nat × Instr × Nat)) : Prop := ∀ q ∈ t, decode b q.1 = .ok q.2
theorem sv_d {b : ByteArray} {t : List (Nat × Instr × Nat)} (h : sv_tk b t) (i : Nat) {pc : Nat} {ins : Instr} {len : Nat} (hi : t[i]? = some (pc, ins, len)) : decode b pc = .ok (ins, len) := h (pc, ins, len) (List.mem_of_getElem? hi)
def ss_let {α β : Type} (b : β) (f : β → Option α) : Option α := f b
def ss_pi (s : sv_S) : Int32 → Option Value × sv_H := fun q => (some (.int q), ss_e s)
def ss_pl (s : sv_S) : Int64 → Option Value × sv_H := fun q => (some (.long q), ss_e s)
def ss_pq (E : sv_E) (s : sv_S) : Nat → Option Value × sv_H := fun q => (some (sv_r E q), ss_e s)
def sv_bl (v : Int32) : Bool := decide (v = 0 ∨ v = 1)
theorem sv_bln {v : Int32} (h : sv_bl v = true) : narrow .boolean (.int v) = .int v := by
  rcases of_decide_eq_true h with rfl | rfl <;> rfl
theorem sv_blf {v : Int32} (h : sv_bl v = true) : fits .boolean (.int v) = true := by
  rcases of_decide_eq_true h with rfl | rfl <;> rfl
def ss_ok2 (s : sv_S) (a k : Nat) : Bool := decide (ss_K a = k ∧ 64 ≤ a ∧ a < 243 + s.2.2.2.2.1)
theorem ss_kr89 : ∀ k, k < 60 → ss_K (91 + k) = 5 := by decide +kernel
theorem ss_kr69 : ∀ k, k < 7 → ss_K (70 + k) = 20 := by decide +kernel
theorem ss_kr180 : ∀ k, k < 6 → ss_K (181 + k) = 21 := by decide +kernel
theorem ss_k5 : ∀ a, a < 243 → True := fun _ _ => trivial
theorem ss_l5 {a : Nat} {s : sv_S} (h : ss_K a = 5) : a < sv_nx (ss_e s) := by
  refine Nat.lt_of_lt_of_le (Nat.not_le.mp fun q => ?_) (Nat.le_add_right 243 _)
  unfold ss_K at h
  rw [if_neg (Nat.not_lt.mpr q)] at h
  split at h <;> omega
theorem ss_ltr {b n k m : Nat} {s : sv_S} (h : b + n ≤ 243) (hk : k < n) (hm : m = b + k := by rfl) : m < sv_nx (ss_e s) := by
  subst hm
  exact Nat.lt_of_lt_of_le (by omega : b + k < 243) (Nat.le_add_right _ _)
theorem ss_st1 (E : sv_E) : ("PennyRates$Acts", "ABOVE", "[I", sv_r E 1) ∈ sv_sta E := List.mem_cons_self
theorem ss_st2 (E : sv_E) : ("PennyRates$Acts", "BODIES", "[I", sv_r E 2) ∈ sv_sta E := List.mem_cons_of_mem _ List.mem_cons_self
theorem w_nat : Cond.native arraycopyName ∈ sv_T := sv_in 781 (by decide +kernel) rfl
theorem w_sta : Cond.static arraycopyName ∈ sv_T := sv_in 780 (by decide +kernel) rfl
theorem w_ini : Cond.initialized "java/lang/System" ∈ sv_T := sv_in 109 (by decide +kernel) rfl
section SS2
variable {α β : Type} {E : sv_E} {M : sv_M} {d pc : Nat} {φ : α → Option Value × sv_H} {lv : List (Nat × Value)} {st : List Value} {h : sv_H} {s : sv_S} {o o1 o2 : Option α}
theorem ss_letr {b : β} {f : β → Option α} (k : ∀ x, x = b → sv_V E M d φ pc lv st h (f x)) : sv_V E M d φ pc lv st h (ss_let b f) := k b rfl
theorem ss_lets {f : sv_S → Option α} (k : ∀ x, x = s → sv_V E M d φ pc lv st (ss_e x) (f x)) : sv_V E M d φ pc lv st (ss_e s) (ss_let s f) := k s rfl
theorem ss_top {b : Int32} {f : Int32 → Option α} (k : ∀ x, x = b → sv_V E M d φ pc lv (.int x :: st) h (f x)) : sv_V E M d φ pc lv (.int b :: st) h (ss_let b f) := k b rfl
theorem ss_topL {b : Int64} {f : Int64 → Option α} (k : ∀ x, x = b → sv_V E M d φ pc lv (.long x :: st) h (f x)) : sv_V E M d φ pc lv (.long b :: st) h (ss_let b f) := k b rfl
theorem ss_topR {b : Nat} {f : Nat → Option α} (k : ∀ x, x = b → sv_V E M d φ pc lv (sv_r E x :: st) h (f x)) : sv_V E M d φ pc lv (sv_r E b :: st) h (ss_let b f) := k b rfl
theorem ss_dec {c : Prop} [Decidable c] (k1 : c → sv_V E M d φ pc lv st h o1) (k2 : ¬ c → sv_V E M d φ pc lv st h o2) : sv_V E M d φ pc lv st h (if c then o1 else o2) := by
  by_cases hc : c
  · rw [if_pos hc]; exact k1 hc
  · rw [if_neg hc]; exact k2 hc
theorem ss_gd2 {a kk : Nat} {st0 : List Value} (k : ss_K a = kk → 64 ≤ a → a < 243 + s.2.2.2.2.1 → sv_V E M d φ pc lv st0 (ss_e s) o) : sv_V E M d φ pc lv st0 (ss_e s) (if ss_ok2 s a kk = true then o else none) := by
  by_cases h : ss_ok2 s a kk = true
  · rw [if_pos h]; exact k (of_decide_eq_true h).1 (of_decide_eq_true h).2.1 (of_decide_eq_true h).2.2
  · rw [if_neg h]; exact sv_none
theorem sv_tab {dflt lo hi : Int} {offs : Array Int} {len : Nat} {x : Int32} {off : Int} {tgt : Nat} (hd : decode M.2.1 pc = .ok (.tableswitch dflt lo hi offs, len)) (z : Int32) (hx : x = z) (h1 : ¬ z.toInt < lo) (h2 : ¬ hi < z.toInt) (ho : offs[(z.toInt - lo).toNat]? = some off) (ht : (pc : Int) + off = (tgt : Int)) (k : sv_V E M d φ tgt lv st h o) : sv_V E M d φ pc lv (.int x :: st) h o := by
  subst hx
  exact sv_step (fun hx hb _ _ hl kk => lv_tableIn hx hb hd h1 h2 ho ht (kk _ hl)) k
theorem sv_tabD {dflt lo hi : Int} {offs : Array Int} {len : Nat} {x : Int32} {tgt : Nat} (hd : decode M.2.1 pc = .ok (.tableswitch dflt lo hi offs, len)) (h0 : x.toInt < lo ∨ hi < x.toInt) (ht : (pc : Int) + dflt = (tgt : Int)) (k : sv_V E M d φ tgt lv st h o) : sv_V E M d φ pc lv (.int x :: st) h o := sv_step (fun hx hb _ _ hl kk => lv_tableOut hx hb hd h0 ht (kk _ hl)) k
theorem sv_lk {dflt : Int} {ps : Array (Int × Int)} {len : Nat} {x : Int32} {off : Int} {tgt : Nat} (hd : decode M.2.1 pc = .ok (.lookupswitch dflt ps, len)) (hp : (ps.toList.zip (ps.toList.drop 1)).all (fun (a, next) => a.1 < next.1) = true) (ho : Op.lookupswitch.offset ps.toList dflt x.toInt = off) (ht : (pc : Int) + off = (tgt : Int)) (k : sv_V E M d φ tgt lv st h o) : sv_V E M d φ pc lv (.int x :: st) h o := sv_step (fun hx hb _ _ hl kk => lv_lookup hx hb hd hp ho ht (kk _ hl)) k
theorem ss_aaldT {c n b kk : Nat} {i : Int32} (hd : decode M.2.1 pc = .ok (.aaload, 1)) (hkd : ss_K c = kk) (hk : ¬ kk < 24) (hk2 : kk < 28) (hrt : (sv_aty kk).isReference = true) (hlt : c < sv_nx (ss_e s)) (hn : ss_N s.2.2.2.1 c = n) (hrow : ∀ k, k < n → ss_LR c k = some (b + k)) (hc : ¬ (c = 82 ∨ c = 83)) (hv : ∀ j, sv_fv E (ss_e s) c (sv_aty kk) j = sv_rf E (ss_R s.2.2.1 c j)) (k : i.toNatClampNeg < n → sv_V E M d φ (pc + 1) lv (sv_r E (b + i.toNatClampNeg) :: st) (ss_e s) o) : sv_V E M d φ pc lv (.int i :: sv_r E c :: st) (ss_e s) (if sv_ib i n = true then o else none) := ss_ib fun hin => sv_aald hd hkd hk hk2 hrt hlt (by show vp_in i (ss_N s.2.2.2.1 c); rw [hn]; exact hin) (by rw [hv, ss_R, if_neg hc, hrow _ (Nat.not_le.mp fun q => hin (Or.inr q))]; rfl) (k (Nat.not_le.mp fun q => hin (Or.inr q)))
theorem ss_getRN {index : Nat} {C host : String} {T : u_T} {N : Nat} {ty : Nat → FieldType} {kk a : Nat} {kf : Nat → Option α} (j : Nat) (hd : decode M.2.1 pc = .ok (.getfield index, 3)) (hcf : sv_CF kk C T N ty) (hj : j < N) (hln : Cond.fieldLinkNest M.1.cls index C (T j).2.1 (T j).2.2.1 host ∈ sv_N) (hkd : ss_K a = kk) (hlt : a < sv_nx (ss_e s)) (hv : sv_fv E (ss_e s) a (ty j) j = sv_rf E (ss_R s.2.2.1 a j)) (h82 : kk < 13) (k : ∀ v, sv_V E M d φ (pc + 3) lv (sv_r E v :: st) (ss_e s) (kf v)) : sv_V E M d φ pc lv (sv_r E a :: st) (ss_e s) ((ss_LR a j).bind kf) := by
  have hne : ¬ (a = 82 ∨ a = 83) := fun h => by rw [← hkd] at h82; rcases h with rfl | rfl <;> exact absurd h82 (by decide +kernel)
  cases h : ss_LR a j with
  | none => exact sv_none
  | some v => exact sv_getN j hd hcf hj hln hkd hlt (by rw [hv, ss_R, if_neg hne, h]; rfl) (k v)
theorem ss_aastG {c n v : Nat} {i : Int32} (hd : decode M.2.1 pc = .ok (.aastore, 1)) (hkd : ss_K c = 25) (hc64 : 64 ≤ c) (hlt : c < sv_nx (ss_e s)) (hn : ss_N s.2.2.2.1 c = n) (hc : c = 82 ∨ c = 83) (hkv : ss_K v = 2) (hltv : v < sv_nx (ss_e s)) (k : sv_V E M d φ (pc + 1) lv st (ss_e (ss_setG s c i.toNatClampNeg v)) o) : sv_V E M d φ pc lv (sv_r E v :: .int i :: sv_r E c :: st) (ss_e s) (if sv_ib i n = true then o else none) := ss_ib fun hin => by
  refine sv_aast (ci := 2) hd hkd (by decide) (by decide) rfl hc64 hlt (by show vp_in i (ss_N s.2.2.2.1 c); rw [hn]; exact hin) cf2 hkv hltv ?_
  have e : sv_setR (ss_e s) c i.toNatClampNeg (some v) = ss_e (ss_setG s c i.toNatClampNeg v) := by
    show (_, _, _, _) = (_, _, _, _)
    refine congrArg (fun z => (s.1, s.2.1, z, ss_N s.2.2.2.1, ss_K, 243 + s.2.2.2.2.1, 12508 + s.2.2.2.2.2)) ?_
    funext a j
    show sv_up (ss_R s.2.2.1) c i.toNatClampNeg (some v) a j = ss_R (sv_up s.2.2.1 c i.toNatClampNeg v) a j
    unfold sv_up ss_R
    by_cases h : a = c ∧ j = i.toNatClampNeg
    · rw [if_pos h, if_pos (show a = 82 ∨ a = 83 by rw [h.1]; exact hc)]
      show some v = some (if a = c ∧ j = i.toNatClampNeg then v else s.2.2.1 a j)
      rw [if_pos h]
    · rw [if_neg h]
      simp only [if_neg h]
  rw [e]; exact k
def ss_cpyI (s : sv_S) (c0 c1 sp dp n : Nat) : sv_S := (sv_cpI s.1 c0 c1 sp dp n, s.2)
def ss_cpyL (s : sv_S) (c0 c1 sp dp n : Nat) : sv_S := (s.1, sv_cpL s.2.1 c0 c1 sp dp n, s.2.2)
theorem ss_acopyI {c0 c1 n0 n1 index : Nat} {sp dp n : Int32} (hd : decode M.2.1 pc = .ok (.invokestatic index, 3)) (hln : Cond.methodLink M.1.cls index arraycopyName ∈ sv_T) (k0 : ss_K c0 = 20) (k1 : ss_K c1 = 20) (o0 : 64 ≤ c0) (o1 : 64 ≤ c1) (l0 : c0 < sv_nx (ss_e s)) (l1 : c1 < sv_nx (ss_e s)) (h0 : ss_N s.2.2.2.1 c0 = n0) (h1 : ss_N s.2.2.2.1 c1 = n1) (hrest : (st.map fun v => v.category).sum ≤ 8) (k : sv_V E M (d + 1) φ (pc + 3) lv st (ss_e (ss_cpyI s c0 c1 sp.toNatClampNeg dp.toNatClampNeg n.toNatClampNeg)) o) : sv_V E M (d + 1) φ pc lv (.int n :: .int dp :: sv_r E c1 :: .int sp :: sv_r E c0 :: st) (ss_e s) (if sv_cpb sp dp n n0 n1 = true then o else none) := ss_grd fun hok => sv_copyI hd hln w_nat w_sta w_ini k0 k1 o0 o1 l0 l1 (by show sv_cpb sp dp n (ss_N s.2.2.2.1 c0) (ss_N s.2.2.2.1 c1) = true; rw [h0, h1]; exact hok) hrest k
theorem ss_acopyL {c0 c1 n0 n1 index : Nat} {sp dp n : Int32} (hd : decode M.2.1 pc = .ok (.invokestatic index, 3)) (hln : Cond.methodLink M.1.cls index arraycopyName ∈ sv_T) (k0 : ss_K c0 = 21) (k1 : ss_K c1 = 21) (o0 : 64 ≤ c0) (o1 : 64 ≤ c1) (l0 : c0 < sv_nx (ss_e s)) (l1 : c1 < sv_nx (ss_e s)) (h0 : ss_N s.2.2.2.1 c0 = n0) (h1 : ss_N s.2.2.2.1 c1 = n1) (hrest : (st.map fun v => v.category).sum ≤ 8) (k : sv_V E M (d + 1) φ (pc + 3) lv st (ss_e (ss_cpyL s c0 c1 sp.toNatClampNeg dp.toNatClampNeg n.toNatClampNeg)) o) : sv_V E M (d + 1) φ pc lv (.int n :: .int dp :: sv_r E c1 :: .int sp :: sv_r E c0 :: st) (ss_e s) (if sv_cpb sp dp n n0 n1 = true then o else none) := ss_grd fun hok => sv_copyL hd hln w_nat w_sta w_ini k0 k1 o0 o1 l0 l1 (by show sv_cpb sp dp n (ss_N s.2.2.2.1 c0) (ss_N s.2.2.2.1 c1) = true; rw [h0, h1]; exact hok) hrest k
end SS2
theorem sv_nlt {t a : Int} (h : a ≤ t) (hn : ¬ t = a) : a + 1 ≤ t := by omega

