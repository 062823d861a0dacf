/-! the law's walk from its entry -/
theorem zw_mk {h z : sv_H} {k ln n : Nat} (hz : 64 ≤ sv_nx z) : sv_sim (sv_mk (sv_ov h z) k ln n) (sv_ov h (sv_mk z k ln n)) := by
  refine ⟨rfl, rfl, fun c hc => ?_⟩
  by_cases q : c < 64
  · have ne : ¬ c = z.2.2.2.2.2.1 := fun e => by have hz : 64 ≤ z.2.2.2.2.2.1 := hz; omega
    refine ⟨?_, ?_, fun j _ => ⟨?_, ?_, fun _ => ?_⟩⟩ <;> simp [sv_mk, sv_ov, sv_z, sv_u1, sv_kd, sv_ln, sv_nx, sv_sl, q, ne]
  · refine ⟨?_, ?_, fun j _ => ⟨?_, ?_, fun _ => ?_⟩⟩ <;> simp [sv_mk, sv_ov, sv_z, sv_u1, sv_kd, sv_ln, sv_nx, sv_sl, q]
theorem zw_s0 (f : Nat → Nat → Int32) (n : Nat) : sv_sim (sk_h f n) (sv_ov (sk_h f n) sk0) := by
  refine ⟨rfl, rfl, fun c hc => ?_⟩
  have hc : c < 64 := hc
  exact ⟨if_pos hc, if_pos hc, fun j _ => ⟨if_pos hc, if_pos hc, fun _ => if_pos hc⟩⟩
theorem zw_walk (E : sv_E) (d : Nat) (f : Nat → Nat → Int32) (n : Nat) : sv_V E m_La_law (d + 83) ss_i 0 [(0, sv_r E 0)] [] (sk_h f n) (F_La_law (sk_s f n)) := by
  have e1 : F_La_law (sk_s f n) = (FD_X_init 64 sk1).bind (fun b => @ite _ (b = sk2) (Classical.propDecidable _) ((FD_Mo_init 187 sk3).bind (fun b' => @ite _ (b' = sk4) (Classical.propDecidable _) (F_La_law (sk_s f n)) none)) none) := by
    rw [sk_x, Option.bind_some, if_pos rfl, sk_m, Option.bind_some, if_pos rfl]
  rw [e1]
  refine sv_into (zw_s0 f n) ?_
  refine sv_new (pc := 0) (sv_d k_La_law_0 0 rfl) cf11 w111 wi11 wn11 (by decide +kernel) ?_
  refine sv_into (zw_mk (h := sk_h f n) (z := sk0) (Nat.le_refl _)) ?_
  show sv_V E _ _ _ 3 _ [sv_r E 64] (sv_ov (sk_h f n) sk1) _
  refine sv_dup (pc := 3) (sv_d k_La_law_0 1 rfl) rfl ?_
  refine sv_callI (pc := 4) (ψ := fun a => ((sd_v a).1, sv_ov (sk_h f n) (sd_v a).2)) (As := []) (rest := [sv_r E 64]) (c := 64) (sv_d k_La_law_0 2 rfl) g_X_init rfl rfl w113 in_X_init rfl (Nat.le_of_ble_eq_true rfl) (sv_ovl sk1_99 (VD_X_init E (d + 79) 64 sk1)) (Nat.le_of_ble_eq_true rfl) rfl (fun r => ?_)
  show sv_V E _ _ _ 7 _ [sv_r E 64] (sv_ov (sk_h f n) r) _
  by_cases e : r = sk2
  rotate_left
  · rw [if_neg e]; exact sv_none
  rw [if_pos e]
  rw [e]
  refine sv_astore_n (pc := 7) (x := 64) (lv' := [(1, sv_r E 64), (0, sv_r E 0)]) (sv_d k_La_law_0 3 rfl) rfl (by decide) rfl ?_
  refine sv_new (pc := 8) (sv_d k_La_law_0 4 rfl) cf12 w1296 wi12 wn12 (by decide +kernel) ?_
  rw [(sv_ov_a (sk_h f n) sk2).1, sk_nx.1]
  refine sv_into (zw_mk (h := sk_h f n) (z := sk2) (by rw [sk_nx.1]; decide)) ?_
  show sv_V E _ _ _ 11 _ [sv_r E 187] (sv_ov (sk_h f n) sk3) _
  refine sv_dup (pc := 11) (sv_d k_La_law_0 5 rfl) rfl ?_
  refine sv_callI (pc := 12) (ψ := fun a => ((sd_v a).1, sv_ov (sk_h f n) (sd_v a).2)) (As := []) (rest := [sv_r E 187]) (c := 187) (sv_d k_La_law_0 6 rfl) g_Mo_init rfl rfl w1298 in_Mo_init rfl (Nat.le_of_ble_eq_true rfl) (sv_ovl sk3_99 (VD_Mo_init E (d + 81) 187 sk3)) (Nat.le_of_ble_eq_true rfl) rfl (fun r2 => ?_)
  show sv_V E _ _ _ 15 _ [sv_r E 187] (sv_ov (sk_h f n) r2) _
  by_cases e2 : r2 = sk4
  rotate_left
  · rw [if_neg e2]; exact sv_none
  rw [if_pos e2]
  rw [e2]
  refine sv_astore_n (pc := 15) (x := 187) (lv' := [(2, sv_r E 187), (1, sv_r E 64), (0, sv_r E 0)]) (sv_d k_La_law_0 7 rfl) rfl (by decide) rfl ?_
  refine sv_into (sk_sim f n) ?_
  exact sv_loc [2, 1, 0] rfl (V_La_law16 E d (sk_s f n))
