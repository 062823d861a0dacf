/-! act -/
section ACTJ
variable {L : List Nat} {s u : sv_S}
theorem zb_JT_fr (h : zb_JT s) (hf : zb_fr L s u) (hL : ([77003, 78, 187011, 197] : List Nat).all (fun x => !L.contains x) = true) : zb_JT u := by
  obtain ⟨n, t1, t2, t3, t4⟩ := h
  have g := fun x (hx : x ∈ ([77003, 78, 187011, 197] : List Nat)) => zb_no_in hL hx
  refine ⟨n, t1, (hf.1 77 3 (g 77003 (by decide))).trans t2, (hf.1 187 11 (g 187011 (by decide))).trans t3, fun i hi => ?_⟩
  rw [hf.1 78 i (g 78 (by decide)), hf.1 197 _ (g 197 (by decide))]; exact t4 i hi
theorem zb_JA_fr (h : zb_JA s) (hf : zb_fr L s u) (hL : ([175001, 176, 187073, 238] : List Nat).all (fun x => !L.contains x) = true) : zb_JA u := by
  obtain ⟨m, a1, a2, a3, a4⟩ := h
  have g := fun x (hx : x ∈ ([175001, 176, 187073, 238] : List Nat)) => zb_no_in hL hx
  refine ⟨m, a1, (hf.1 175 1 (g 175001 (by decide))).trans a2, (hf.1 187 73 (g 187073 (by decide))).trans a3, fun i hi h2 => ?_⟩
  rw [hf.1 176 i (g 176 (by decide)), hf.1 238 i (g 238 (by decide))]; exact a4 i hi h2
theorem zb_JP_fr (h : zb_JP s) (hf : zb_fr L s u) (hL : ([178, 179, 239, 240] : List Nat).all (fun x => !L.contains x) = true) : zb_JP u := by
  have g := fun x (hx : x ∈ ([178, 179, 239, 240] : List Nat)) => zb_no_in hL hx
  intro t ht
  obtain ⟨o, n, p1, p2, p3, p4, p5, p6, p7, p8, p9⟩ := h t ht
  refine ⟨o, n, p1, p2, p3, p4, (hf.1 178 t (g 178 (by decide))).trans p5, (hf.1 239 t (g 239 (by decide))).trans p6, (hf.1 179 t (g 179 (by decide))).trans p7, (hf.1 240 t (g 240 (by decide))).trans p8, fun i hi => ?_⟩
  rw [hf.2]; exact p9 i hi
theorem zb_JE_fr (h : zb_JE s) (hf : zb_fr L s u) (hL : ([187051, 64010] : List Nat).all (fun x => !L.contains x) = true) : zb_JE u := by
  have g := fun x (hx : x ∈ ([187051, 64010] : List Nat)) => zb_no_in hL hx
  obtain ⟨e, e1, e2, e3, e4⟩ := h
  exact ⟨e, e1, e2, (hf.1 187 51 (g 187051 (by decide))).trans e3, (hf.1 64 10 (g 64010 (by decide))).trans e4⟩
theorem zb_JB_fr (h : zb_JB s) (hf : zb_fr L s u) (hL : ([1, 2] : List Nat).all (fun x => !L.contains x) = true) : zb_JB u := by
  have g := fun x (hx : x ∈ ([1, 2] : List Nat)) => zb_no_in hL hx
  exact ⟨fun k hk => (hf.1 1 k (g 1 (by decide))).trans (h.1 k hk), fun k hk => (hf.1 2 k (g 2 (by decide))).trans (h.2 k hk)⟩
end ACTJ
def zb_aN : List Nat := [0, 0, 0, 0, 1, 0, 0]
def zb_bfv : Nat → Nat → Nat → Nat
  | 0, _, _ => 0
  | m + 1, f, a => if zb_bL.getD (3 * f + a) 0 = 0 then zb_bfv m (zb_aN.getD f 0) a else zb_bL.getD (3 * f + a) 0
def zb_bf (f a : Nat) : Nat := zb_bfv 3 f a
theorem zb_bf_ok : ∀ f, f < 7 → ∀ a, a < 3 → zb_bf f a = 10 ∨ zb_bf f a = 11 ∨ zb_bf f a = 12 ∨ zb_bf f a = 20 ∨ zb_bf f a = 30 ∨ zb_bf f a = 40 ∨ zb_bf f a = 50 ∨ zb_bf f a = 51 ∨ zb_bf f a = 60 ∨ zb_bf f a = 70 ∨ zb_bf f a = 71 := by decide
theorem zb_aN_lt : ∀ f, f < 7 → zb_aN.getD f 0 < 7 := by decide
theorem zb_aN_ok : ∀ f, f < 7 → ∀ a, a < 3 → zb_bL.getD (3 * f + a) 0 = 0 → zb_aL.getD f 0 = (zb_aN.getD f 0 : Int) := by decide
theorem zb_bL_le : ∀ k, k < 21 → zb_bL.getD k 0 ≤ 71 := by decide
section ACT
variable {N K td Q T W Z : Nat} {A B O ZK : Nat → Nat} {M LO LD : Nat → Int} {LE : Nat → List zb_EF} {R TK WK : Nat → Nat → Int} {s : sv_S}
variable {x1 x2 x3 : Int32} {k f a d : Nat} {num own pen x : Int32} {s0 : sv_S} {bs : List Nat}
theorem zb_bodyFrom_b4 (hB : zb_JB s) (ha : a < 3) : ∀ (m n d f : Nat), f < 7 → d + m ≤ 7 → zb_bfv m f a ≠ 0 → F_Ac_bodyFrom_b4 s (n + m) (zb_n a) (zb_n f) (zb_n d) = some (zb_n (zb_bfv m f a)) := by
  intro m
  induction m with
  | zero => intro n d f _ _ h; exact absurd rfl h
  | succ m ih =>
    intro n d f hf hd h
    have fm : ¬ zb_n f = (-1 : Int32) := by rw [zb_m1, zb_n_i, zb_i_eq (by omega) (by omega) (by omega) (by omega)]; omega
    have e1 : zb_n f * (3 : Int32) + zb_n a = zb_n (3 * f + a) := by rw [show (3 : Int32) = zb_n 3 from rfl, zb_n_mul, zb_n_add, Nat.mul_comm f 3]
    have l := zb_bL_le (3 * f + a) (by omega)
    show F_Ac_bodyFrom_b4 s ((n + m) + 1) (zb_n a) (zb_n f) (zb_n d) = _
    simp only [F_Ac_bodyFrom_b4]
    rw [if_neg (by rw [show (7 : Int32) = zb_n 7 from rfl, zb_n_le (by omega) (by omega)]; omega), if_neg fm, e1, if_pos (by rw [zb_ib_n (by omega)]; omega), zb_n_ix (by omega), hB.2 _ (by omega)]
    simp only [zb_bfv] at h ⊢
    by_cases q : zb_bL.getD (3 * f + a) 0 = 0
    · rw [if_pos q] at h
      rw [if_pos q, q]
      simp only [ss_let]
      rw [if_pos (show zb_n 0 = (0 : Int32) from rfl), if_pos (by rw [zb_ib_n (by omega)]; omega), zb_n_ix (by omega), hB.1 f hf, zb_aN_ok f hf a ha q, ← zb_n_i]
      rw [show zb_n d + (1 : Int32) = zb_n (d + 1) from zb_n_add d 1]
      exact ih n (d + 1) _ (zb_aN_lt f hf) (by omega) h
    · rw [if_neg q]
      simp only [ss_let]
      rw [if_neg (by rw [show (0 : Int32) = zb_n 0 from rfl, zb_n_eq (by omega) (by omega)]; exact q)]
theorem zb_bodyFrom (hB : zb_JB s) (hf : f < 7) (ha : a < 3) : F_Ac_bodyFrom (zb_n f) (zb_n a) s = some (zb_n (zb_bf f a)) := by
  have := zb_bf_ok f hf a ha
  exact zb_bodyFrom_b4 hB ha 3 8189 0 f hf (by omega) (by show zb_bf f a ≠ 0; omega)
/-- the class's acts: what ran so far -/
def zb_Ac (bs : List Nat) (s0 u : sv_S) : Prop := zb_fr [175001, 176] s0 u ∧ u.1 175 1 = zb_n bs.length ∧ ∀ i, i < bs.length → u.1 176 i = zb_n (bs.getD i 0)
def zb_AcM (bs : List Nat) (s0 u : sv_S) : Prop := zb_fr [187073, 238] s0 u ∧ u.1 187 73 = zb_n bs.length ∧ ∀ i, i < bs.length → u.1 238 i = zb_n (bs.getD i 0)
theorem zb_gD1 {bs : List Nat} {b i : Nat} (h : i < bs.length) : (bs ++ [b]).getD i 0 = bs.getD i 0 := by
  rw [List.getD_eq_getElem?_getD, List.getD_eq_getElem?_getD, List.getElem?_append_left h]
theorem zb_gD2 {bs : List Nat} {b : Nat} : (bs ++ [b]).getD bs.length 0 = b := by
  rw [List.getD_eq_getElem?_getD, List.getElem?_append_right (Nat.le_refl _), Nat.sub_self]; rfl
theorem zb_Ac_push {b : Nat} (h : zb_Ac bs s0 s) : zb_Ac (bs ++ [b]) s0 (ss_setI (ss_setI s 176 bs.length (zb_n b)) 175 1 (zb_n (bs.length + 1))) := by
  refine ⟨zb_fr_set (zb_fr_set h.1 rfl) rfl, by rw [zb_set_eq, List.length_append]; rfl, fun i hi => ?_⟩
  rw [zb_set_ne (by omega)]
  rw [List.length_append, List.length_singleton] at hi
  by_cases e : i = bs.length
  · rw [e, zb_set_eq, zb_gD2]
  · rw [zb_set_ne (by omega), h.2.2 i (by omega), zb_gD1 (by omega)]
theorem zb_AcM_push {b : Nat} (h : zb_AcM bs s0 s) : zb_AcM (bs ++ [b]) s0 (ss_setI (ss_setI s 238 bs.length (zb_n b)) 187 73 (zb_n (bs.length + 1))) := by
  refine ⟨zb_fr_set (zb_fr_set h.1 rfl) rfl, by rw [zb_set_eq, List.length_append]; rfl, fun i hi => ?_⟩
  rw [zb_set_ne (by omega)]
  rw [List.length_append, List.length_singleton] at hi
  by_cases e : i = bs.length
  · rw [e, zb_set_eq, zb_gD2]
  · rw [zb_set_ne (by omega), h.2.2 i (by omega), zb_gD1 (by omega)]
theorem zb_send_o {fu fl : Int32 → Int32 → Int32 → sv_S → Option (Int32 × sv_S)} {P : Int32 × sv_S → Prop} (hB : zb_JB s0) (h : zb_Ac bs s0 s) (hb : bs.length < 20) (hf : f < 7) (ha : a < 3) (hd : d ≤ 30)
    (k1 : ∀ u, 50 ≤ zb_bf f a → zb_Ac (bs ++ [zb_bf f a]) s0 u → zb_W (fl (zb_n (zb_bf f a)) x (zb_n (d + 1)) u) P) (k2 : ∀ u, zb_bf f a < 50 → zb_Ac (bs ++ [zb_bf f a]) s0 u → zb_W (fu (zb_n (zb_bf f a)) x (zb_n (d + 1)) u) P) :
    zb_W (F_Ac_send_o fu fl (zb_n f) (zb_n a) x (zb_n d) s) P := by
  have ok := zb_bf_ok f hf a ha
  have hB1 : zb_JB s := zb_JB_fr hB h.1 (by decide)
  unfold F_Ac_send_o
  rw [zb_bodyFrom hB1 hf ha]
  refine zb_Wbind (zb_Wsome ?_)
  refine zb_Wneg (by rw [show (0 : Int32) = zb_n 0 from rfl, zb_n_eq (by omega) (by omega)]; omega) ?_
  refine zb_Wpos (by rw [show (30 : Int32) = zb_n 30 from rfl, zb_n_le (by omega) (by omega)]; omega) ?_
  rw [h.2.1]
  refine zb_Wneg (by rw [show (20 : Int32) = zb_n 20 from rfl, zb_n_le (by omega) (by omega)]; omega) ?_
  refine zb_Wpos (by rw [zb_ib_n (by omega)]; omega) (zb_Wlet ?_)
  rw [zb_n_ix (by omega)]
  unfold F_Ac_send_b41o
  refine zb_Wlet ?_
  rw [zb_set_ne (by omega), h.2.1, show zb_n bs.length + (1 : Int32) = zb_n (bs.length + 1) from zb_n_add _ 1, show zb_n d + (1 : Int32) = zb_n (d + 1) from zb_n_add _ 1]
  have ac := zb_Ac_push (b := zb_bf f a) h
  by_cases q : 50 ≤ zb_bf f a
  · refine zb_Wpos (by rw [show (50 : Int32) = zb_n 50 from rfl, zb_n_le (by omega) (by omega)]; exact q) ?_
    exact zb_Wbind2 (k1 _ q ac) (fun r hr => zb_Wsome hr)
  · refine zb_Wneg (by rw [show (50 : Int32) = zb_n 50 from rfl, zb_n_le (by omega) (by omega)]; exact q) ?_
    exact zb_Wbind2 (k2 _ (by omega) ac) (fun r hr => zb_Wsome hr)
/-- what an act answers, and which bodies ran -/
def zb_acp (k : Nat) (num own pen : Int32) : Nat → Nat → Nat → Int32 → Option (Int32 × List Nat)
  | 0, _, _, _ => none
  | n + 1, f, a, x =>
    if zb_bf f a = 10 then some (x + pen, [10])
    else if zb_bf f a = 11 then (zb_acp k num own pen n k 0 x).bind fun r => some (r.1 - own, 11 :: r.2)
    else if zb_bf f a = 12 then (zb_acp k num own pen n k 1 x).bind fun r => some (r.1 * (2 : Int32), 12 :: r.2)
    else if zb_bf f a = 20 then (zb_acp k num own pen n 0 1 x).bind fun r => some (r.1 ^^^ num, 20 :: r.2)
    else if zb_bf f a = 30 then (zb_acp k num own pen n 0 0 x).bind fun r => some (r.1 - (1 : Int32), 30 :: r.2)
    else if zb_bf f a = 40 then (zb_acp k num own pen n 0 0 (x * (2 : Int32))).bind fun r => some (r.1, 40 :: r.2)
    else if zb_bf f a = 50 then (zb_acp k num own pen n 1 2 x).bind fun r => (zb_acp k num own pen n k 1 (1 : Int32)).bind fun q => some (r.1 + q.1, 50 :: (r.2 ++ q.2))
    else if zb_bf f a = 51 then (zb_acp k num own pen n 1 1 x).bind fun r => some (r.1 + (4 : Int32), 51 :: r.2)
    else if zb_bf f a = 60 then (zb_acp k num own pen n 0 2 x).bind fun r => some (-r.1, 60 :: r.2)
    else if zb_bf f a = 70 then some (num, [70])
    else (zb_acp k num own pen n k 0 x).bind fun r => (zb_acp k num own pen n 0 2 x).bind fun q => some (r.1 + q.1, 71 :: (r.2 ++ q.2))
theorem zb_obs {α β : Type} {o : Option α} {g : α → Option β} {v : β} (h : o.bind g = some v) : ∃ a, o = some a ∧ g a = some v := by
  cases o with
  | none => cases h
  | some a => exact ⟨a, rfl, h⟩
theorem zb_send (hk : k < 7) (hB : zb_JB s0) (h2 : s0.1 175 2 = zb_n k) (h3 : s0.1 175 3 = num) (h4 : s0.1 175 4 = own) (h5 : s0.1 175 5 = pen) :
    ∀ (n m f a d : Nat) (x : Int32) (s : sv_S) (bs : List Nat) (v : Int32) (l : List Nat), n ≤ m → f < 7 → a < 3 → zb_acp k num own pen n f a x = some (v, l) → bs.length + l.length ≤ 20 → d + n ≤ 31 → zb_Ac bs s0 s → zb_W (F_Ac_sendN m (zb_n f) (zb_n a) x (zb_n d) s) (fun r => r.1 = v ∧ zb_Ac (bs ++ l) s0 r.2) := by
  intro n
  induction n with
  | zero => intro m f a d x s bs v l _ _ _ h; cases h
  | succ n ih =>
    intro m f a d x s bs v l hm hf ha hp hl hd hs
    obtain ⟨m, rfl⟩ : ∃ m', m = m' + 1 := ⟨m - 1, by omega⟩
    have ab : ∀ u : sv_S, zb_fr [175001, 176] s0 u → ∀ j : Nat, j < 7 → u.1 1 j = zb_i (zb_aL.getD j 0) := fun u hu j hj => (zb_JB_fr hB hu (by decide)).1 j hj
    have lpos : 1 ≤ l.length := by
      have ok := zb_bf_ok f hf a ha
      simp only [zb_acp] at hp
      rcases ok with e | e | e | e | e | e | e | e | e | e | e <;> rw [e] at hp <;> simp only [Nat.reduceEqDiff, if_true, if_false] at hp
      · cases hp; decide
      · obtain ⟨r, _, h⟩ := zb_obs hp; cases h; simp
      · obtain ⟨r, _, h⟩ := zb_obs hp; cases h; simp
      · obtain ⟨r, _, h⟩ := zb_obs hp; cases h; simp
      · obtain ⟨r, _, h⟩ := zb_obs hp; cases h; simp
      · obtain ⟨r, _, h⟩ := zb_obs hp; cases h; simp
      · obtain ⟨r, _, h⟩ := zb_obs hp; obtain ⟨q, _, h⟩ := zb_obs h; cases h; simp
      · obtain ⟨r, _, h⟩ := zb_obs hp; cases h; simp
      · obtain ⟨r, _, h⟩ := zb_obs hp; cases h; simp
      · cases hp; decide
      · obtain ⟨r, _, h⟩ := zb_obs hp; obtain ⟨q, _, h⟩ := zb_obs h; cases h; simp
    have ap1 : ∀ (b : Nat) (r : List Nat), bs ++ [b] ++ r = bs ++ (b :: r) := fun b r => by rw [List.append_assoc]; rfl
    have ln : ∀ b : Nat, (bs ++ [b]).length = bs.length + 1 := fun b => by rw [List.length_append]; rfl
    -- one send more
    have one : ∀ (u : sv_S) (bs' : List Nat) (f' a' : Nat) (y : Int32) (r : Int32 × List Nat), f' < 7 → a' < 3 → zb_acp k num own pen n f' a' y = some r → bs'.length + r.2.length ≤ 20 → zb_Ac bs' s0 u → zb_W (F_Ac_sendN m (zb_n f') (zb_n a') y (zb_n (d + 1)) u) (fun q => q.1 = r.1 ∧ zb_Ac (bs' ++ r.2) s0 q.2) := fun u bs' f' a' y r q1 q2 q3 q4 q5 => ih m f' a' (d + 1) y u bs' r.1 r.2 (by omega) q1 q2 q3 q4 (by omega) q5
    show zb_W (F_Ac_send_o (F_Ac_upperBody_o (F_Ac_sendN m)) (F_Ac_lowerBody_o (F_Ac_sendN m)) (zb_n f) (zb_n a) x (zb_n d) s) _
    have ok := zb_bf_ok f hf a ha
    refine zb_send_o hB hs (by omega) hf ha (by omega) (fun u ge hu => ?_) (fun u lt hu => ?_)
    · have e2 : u.1 175 2 = zb_n k := (hu.1.1 175 2 rfl).trans h2
      have e3 : u.1 175 3 = num := (hu.1.1 175 3 rfl).trans h3
      have al := ab u hu.1
      simp only [zb_acp] at hp
      rcases ok with e | e | e | e | e | e | e | e | e | e | e <;> rw [e] at hp hu ge ⊢ <;> first | (exact absurd ge (by omega)) | skip
      · obtain ⟨r, p1, p2⟩ := zb_obs (by simpa using hp)
        obtain ⟨q, p3, p4⟩ := zb_obs p2
        cases p4
        simp only [List.length_cons, List.length_append] at hl
        unfold F_Ac_lowerBody_o
        refine zb_Wpos rfl (zb_Wpos (by decide) ?_)
        rw [show (4 : Int32).toNatClampNeg = 4 from rfl, al 4 (by omega), show zb_i (zb_aL.getD 4 0) = zb_n 1 from rfl, show (2 : Int32) = zb_n 2 from rfl]
        refine zb_Wbind2 (one u _ 1 2 x r (by omega) (by omega) p1 (by rw [ln]; omega) hu) (fun w hw => ?_)
        rw [(hw.2.1.1 175 2 rfl).trans h2]
        refine zb_Wbind2 (one w.2 _ k 1 (1 : Int32) q hk (by omega) p3 (by rw [List.length_append, ln]; omega) hw.2) (fun z hz => zb_Wsome ⟨by rw [hw.1, hz.1], ?_⟩)
        have := hz.2
        rw [ap1, List.append_assoc] at this
        exact this
      · obtain ⟨r, p1, p2⟩ := zb_obs (by simpa using hp)
        cases p2
        simp only [List.length_cons] at hl
        unfold F_Ac_lowerBody_o
        refine zb_Wneg (by decide) (zb_Wpos rfl (zb_Wpos (by decide) ?_))
        rw [show (4 : Int32).toNatClampNeg = 4 from rfl, al 4 (by omega), show zb_i (zb_aL.getD 4 0) = zb_n 1 from rfl, show (1 : Int32) = zb_n 1 from rfl]
        refine zb_Wbind2 (one u _ 1 1 x r (by omega) (by omega) p1 (by rw [ln]; omega) hu) (fun w hw => zb_Wsome ⟨by rw [hw.1], ?_⟩)
        have := hw.2
        rw [ap1] at this
        exact this
      · obtain ⟨r, p1, p2⟩ := zb_obs (by simpa using hp)
        cases p2
        simp only [List.length_cons] at hl
        unfold F_Ac_lowerBody_o
        refine zb_Wneg (by decide) (zb_Wneg (by decide) (zb_Wpos rfl (zb_Wpos (by decide) ?_)))
        rw [show (5 : Int32).toNatClampNeg = 5 from rfl, al 5 (by omega), show zb_i (zb_aL.getD 5 0) = zb_n 0 from rfl, show (2 : Int32) = zb_n 2 from rfl]
        refine zb_Wbind2 (one u _ 0 2 x r (by omega) (by omega) p1 (by rw [ln]; omega) hu) (fun w hw => zb_Wsome ⟨by rw [hw.1], ?_⟩)
        have := hw.2
        rw [ap1] at this
        exact this
      · have hp' : some (num, [70]) = some (v, l) := by simpa using hp
        cases hp'
        unfold F_Ac_lowerBody_o
        exact zb_Wneg (by decide) (zb_Wneg (by decide) (zb_Wneg (by decide) (zb_Wpos rfl (zb_Wsome ⟨e3, hu⟩))))
      · obtain ⟨r, p1, p2⟩ := zb_obs (by simpa using hp)
        obtain ⟨q, p3, p4⟩ := zb_obs p2
        cases p4
        simp only [List.length_cons, List.length_append] at hl
        unfold F_Ac_lowerBody_o
        refine zb_Wneg (by decide) (zb_Wneg (by decide) (zb_Wneg (by decide) (zb_Wneg (by decide) ?_)))
        rw [e2, show (0 : Int32) = zb_n 0 from rfl]
        refine zb_Wbind2 (one u _ k 0 x r hk (by omega) p1 (by rw [ln]; omega) hu) (fun w hw => zb_Wpos (by decide) ?_)
        rw [show (6 : Int32).toNatClampNeg = 6 from rfl, ab w.2 hw.2.1 6 (by omega), show zb_i (zb_aL.getD 6 0) = zb_n 0 from rfl, show (2 : Int32) = zb_n 2 from rfl]
        refine zb_Wbind2 (one w.2 _ 0 2 x q (by omega) (by omega) p3 (by rw [List.length_append, ln]; omega) hw.2) (fun z hz => zb_Wsome ⟨by rw [hw.1, hz.1], ?_⟩)
        have := hz.2
        rw [ap1, List.append_assoc] at this
        exact this
    · have e2 : u.1 175 2 = zb_n k := (hu.1.1 175 2 rfl).trans h2
      have e5 : u.1 175 5 = pen := (hu.1.1 175 5 rfl).trans h5
      have al := ab u hu.1
      simp only [zb_acp] at hp
      rcases ok with e | e | e | e | e | e | e | e | e | e | e <;> rw [e] at hp hu lt ⊢ <;> first | (exact absurd lt (by omega)) | skip
      · have hp' : some (x + pen, [10]) = some (v, l) := by simpa using hp
        cases hp'
        unfold F_Ac_upperBody_o
        exact zb_Wpos rfl (zb_Wsome ⟨by rw [e5], hu⟩)
      · obtain ⟨r, p1, p2⟩ := zb_obs (by simpa using hp)
        cases p2
        simp only [List.length_cons] at hl
        unfold F_Ac_upperBody_o
        refine zb_Wneg (by decide) (zb_Wpos rfl ?_)
        rw [e2, show (0 : Int32) = zb_n 0 from rfl]
        refine zb_Wbind2 (one u _ k 0 x r hk (by omega) p1 (by rw [ln]; omega) hu) (fun w hw => zb_Wsome ⟨by rw [hw.1, (hw.2.1.1 175 4 rfl).trans h4], ?_⟩)
        have := hw.2
        rw [ap1] at this
        exact this
      · obtain ⟨r, p1, p2⟩ := zb_obs (by simpa using hp)
        cases p2
        simp only [List.length_cons] at hl
        unfold F_Ac_upperBody_o
        refine zb_Wneg (by decide) (zb_Wneg (by decide) (zb_Wpos rfl ?_))
        rw [e2, show (1 : Int32) = zb_n 1 from rfl]
        refine zb_Wbind2 (one u _ k 1 x r hk (by omega) p1 (by rw [ln]; omega) hu) (fun w hw => zb_Wsome ⟨by rw [hw.1], ?_⟩)
        have := hw.2
        rw [ap1] at this
        exact this
      · obtain ⟨r, p1, p2⟩ := zb_obs (by simpa using hp)
        cases p2
        simp only [List.length_cons] at hl
        unfold F_Ac_upperBody_o
        refine zb_Wneg (by decide) (zb_Wneg (by decide) (zb_Wneg (by decide) (zb_Wpos rfl (zb_Wpos (by decide) ?_))))
        rw [show (1 : Int32).toNatClampNeg = 1 from rfl, al 1 (by omega), show zb_i (zb_aL.getD 1 0) = zb_n 0 from rfl, show (1 : Int32) = zb_n 1 from rfl]
        refine zb_Wbind2 (one u _ 0 1 x r (by omega) (by omega) p1 (by rw [ln]; omega) hu) (fun w hw => zb_Wsome ⟨by rw [hw.1, (hw.2.1.1 175 3 rfl).trans h3], ?_⟩)
        have := hw.2
        rw [ap1] at this
        exact this
      · obtain ⟨r, p1, p2⟩ := zb_obs (by simpa using hp)
        cases p2
        simp only [List.length_cons] at hl
        unfold F_Ac_upperBody_o
        refine zb_Wneg (by decide) (zb_Wneg (by decide) (zb_Wneg (by decide) (zb_Wneg (by decide) (zb_Wpos rfl (zb_Wpos (by decide) ?_)))))
        rw [show (2 : Int32).toNatClampNeg = 2 from rfl, al 2 (by omega), show zb_i (zb_aL.getD 2 0) = zb_n 0 from rfl, show (0 : Int32) = zb_n 0 from rfl]
        refine zb_Wbind2 (one u _ 0 0 x r (by omega) (by omega) p1 (by rw [ln]; omega) hu) (fun w hw => zb_Wsome ⟨by rw [hw.1], ?_⟩)
        have := hw.2
        rw [ap1] at this
        exact this
      · obtain ⟨r, p1, p2⟩ := zb_obs (by simpa using hp)
        cases p2
        simp only [List.length_cons] at hl
        unfold F_Ac_upperBody_o
        refine zb_Wneg (by decide) (zb_Wneg (by decide) (zb_Wneg (by decide) (zb_Wneg (by decide) (zb_Wneg (by decide) (zb_Wpos (by decide) ?_)))))
        rw [show (3 : Int32).toNatClampNeg = 3 from rfl, al 3 (by omega), show zb_i (zb_aL.getD 3 0) = zb_n 0 from rfl, show (0 : Int32) = zb_n 0 from rfl]
        refine zb_Wbind2 (one u _ 0 0 (x * (2 : Int32)) r (by omega) (by omega) p1 (by rw [ln]; omega) hu) (fun w hw => zb_Wsome ⟨by rw [hw.1], ?_⟩)
        have := hw.2
        rw [ap1] at this
        exact this
/-- the model's -/
theorem zb_body {b : Nat} (h : zb_AcM bs s0 s) (hb : bs.length < 20) : zb_W (F_Mo_body (zb_n b) s) (zb_AcM (bs ++ [b]) s0) := by
  unfold F_Mo_body
  rw [h.2.1]
  refine zb_Wneg (by rw [show (20 : Int32) = zb_n 20 from rfl, zb_n_le (by omega) (by omega)]; omega) ?_
  refine zb_Wpos (by rw [zb_ib_n (by omega)]; omega) (zb_Wlet ?_)
  rw [zb_n_ix (by omega), zb_set_ne (by omega), h.2.1, show zb_n bs.length + (1 : Int32) = zb_n (bs.length + 1) from zb_n_add _ 1]
  exact zb_Wlet (zb_Wsome (zb_AcM_push h))
def zb_mc (num own pen : Int32) (k : Nat) (x : Int32) : Int32 × List Nat := if k = 2 then (x + pen - (1 : Int32), [30, 10]) else if k = 3 then (x * (2 : Int32) + pen, [40, 10]) else if k = 6 then (num, [70]) else (x + pen, [10])
def zb_mps (num own pen : Int32) (k : Nat) (x : Int32) : Int32 × List Nat := ((zb_mc num own pen k x).1 - own, 11 :: (zb_mc num own pen k x).2)
def zb_mts (num own pen : Int32) (k : Nat) (x : Int32) : Int32 × List Nat := ((zb_mps num own pen k x).1 ^^^ num, 20 :: (zb_mps num own pen k x).2)
def zb_mso (num own pen : Int32) (k : Nat) (x : Int32) : Int32 × List Nat := if k = 4 then ((zb_mts num own pen k x).1 + (4 : Int32), 51 :: (zb_mts num own pen k x).2) else if k = 1 then zb_mts num own pen k x else zb_mps num own pen k x
def zb_mpe (num own pen : Int32) (k : Nat) (x : Int32) : Int32 × List Nat := ((zb_mso num own pen k x).1 * (2 : Int32), 12 :: (zb_mso num own pen k x).2)
def zb_meo (num own pen : Int32) (k : Nat) (x : Int32) : Int32 × List Nat := if k = 4 then ((zb_mpe num own pen k x).1 + (zb_mso num own pen k (1 : Int32)).1, 50 :: ((zb_mpe num own pen k x).2 ++ (zb_mso num own pen k (1 : Int32)).2)) else if k = 5 then (-(zb_mpe num own pen k x).1, 60 :: (zb_mpe num own pen k x).2) else if k = 6 then ((zb_mc num own pen k x).1 + (zb_mpe num own pen k x).1, 71 :: ((zb_mc num own pen k x).2 ++ (zb_mpe num own pen k x).2)) else zb_mpe num own pen k x
def zb_mact (num own pen : Int32) (k a : Nat) (x : Int32) : Int32 × List Nat := if a = 0 then zb_mc num own pen k x else if a = 1 then zb_mso num own pen k x else zb_meo num own pen k x
theorem zb_acp_m (hk : k < 7) (ha : a < 3) : zb_acp k num own pen 8 k a x = some (zb_mact num own pen k a x) := by
  have e1 : k = 0 ∨ k = 1 ∨ k = 2 ∨ k = 3 ∨ k = 4 ∨ k = 5 ∨ k = 6 := by omega
  have e2 : a = 0 ∨ a = 1 ∨ a = 2 := by omega
  rcases e1 with rfl | rfl | rfl | rfl | rfl | rfl | rfl <;> rcases e2 with rfl | rfl | rfl <;> rfl
theorem zb_mc_len : (zb_mc num own pen k x).2.length ≤ 2 := by
  unfold zb_mc
  split
  · exact Nat.le_refl 2
  split
  · exact Nat.le_refl 2
  split <;> exact Nat.le_succ 1
theorem zb_mps_len : (zb_mps num own pen k x).2.length ≤ 3 := by have := zb_mc_len (num := num) (own := own) (pen := pen) (k := k) (x := x); show _ + 1 ≤ 3; omega
theorem zb_mts_len : (zb_mts num own pen k x).2.length ≤ 4 := by have := zb_mps_len (num := num) (own := own) (pen := pen) (k := k) (x := x); show _ + 1 ≤ 4; omega
theorem zb_mso_len : (zb_mso num own pen k x).2.length ≤ 5 := by
  have h1 := zb_mps_len (num := num) (own := own) (pen := pen) (k := k) (x := x)
  have h2 := zb_mts_len (num := num) (own := own) (pen := pen) (k := k) (x := x)
  unfold zb_mso
  split
  · show _ + 1 ≤ 5; omega
  split <;> omega
theorem zb_mpe_len : (zb_mpe num own pen k x).2.length ≤ 6 := by have := zb_mso_len (num := num) (own := own) (pen := pen) (k := k) (x := x); show _ + 1 ≤ 6; omega
theorem zb_mact_len : (zb_mact num own pen k a x).2.length ≤ 12 := by
  have h0 := zb_mc_len (num := num) (own := own) (pen := pen) (k := k) (x := x)
  have h1 := zb_mso_len (num := num) (own := own) (pen := pen) (k := k) (x := x)
  have h2 := zb_mpe_len (num := num) (own := own) (pen := pen) (k := k) (x := x)
  have h3 := zb_mso_len (num := num) (own := own) (pen := pen) (k := k) (x := (1 : Int32))
  unfold zb_mact
  split
  · omega
  split
  · omega
  unfold zb_meo
  split
  · simp only [List.length_cons, List.length_append]; omega
  split
  · simp only [List.length_cons]; omega
  split
  · simp only [List.length_cons, List.length_append]; omega
  · omega
theorem zb_keq (hk : k < 7) (j : Nat) (hj : j < 7) : (zb_n k = zb_n j) = (k = j) := zb_n_eq (by omega) (by omega)
theorem zb_plainCharges {r : Nat} (hr : r < 60) (h9 : s0.1 209 r = pen) (h : zb_AcM bs s0 s) (hb : bs.length < 20) : zb_W (F_Mo_plainCharges (zb_n r) x s) (fun q => q.1 = x + pen ∧ zb_AcM (bs ++ [10]) s0 q.2) := by
  unfold F_Mo_plainCharges
  refine zb_Wbind2 (zb_body (b := 10) h hb) (fun u hu => zb_Wpos (by rw [zb_ib_n (by omega)]; omega) (zb_Wsome ⟨?_, hu⟩))
  rw [zb_n_ix (by omega), (hu.1.1 209 r rfl).trans h9]
theorem zb_chargesOf {r : Nat} (hr : r < 60) (hk : k < 7) (h9 : s0.1 209 r = pen) (hn : num = zb_n r) (h : zb_AcM bs s0 s) (hb : bs.length < 19) : zb_W (F_Mo_chargesOf (zb_n r) (zb_n k) x s) (fun q => q.1 = (zb_mc num own pen k x).1 ∧ zb_AcM (bs ++ (zb_mc num own pen k x).2) s0 q.2) := by
  have ln : ∀ b : Nat, (bs ++ [b]).length = bs.length + 1 := fun b => by rw [List.length_append]; rfl
  have ap1 : ∀ (b : Nat) (r : List Nat), bs ++ [b] ++ r = bs ++ (b :: r) := fun b r => by rw [List.append_assoc]; rfl
  unfold F_Mo_chargesOf zb_mc
  rw [show (2 : Int32) = zb_n 2 from rfl, show (3 : Int32) = zb_n 3 from rfl, show (6 : Int32) = zb_n 6 from rfl]
  simp only [zb_keq hk 2 (by omega), zb_keq hk 3 (by omega), zb_keq hk 6 (by omega)]
  by_cases q1 : k = 2
  · rw [if_pos q1, if_pos q1]
    refine zb_Wbind2 (zb_body (b := 30) h (by omega)) (fun u hu => zb_Wbind2 (zb_plainCharges hr h9 hu (by rw [ln]; omega)) (fun w hw => zb_Wsome ⟨by rw [hw.1], ?_⟩))
    have := hw.2; rw [ap1] at this; exact this
  rw [if_neg q1, if_neg q1]
  by_cases q2 : k = 3
  · rw [if_pos q2, if_pos q2]
    refine zb_Wbind2 (zb_body (b := 40) h (by omega)) (fun u hu => zb_Wbind2 (zb_plainCharges hr h9 hu (by rw [ln]; omega)) (fun w hw => zb_Wsome ⟨by rw [hw.1], ?_⟩))
    have := hw.2; rw [ap1] at this; exact this
  rw [if_neg q2, if_neg q2]
  by_cases q3 : k = 6
  · rw [if_pos q3, if_pos q3]
    exact zb_Wbind2 (zb_body (b := 70) h (by omega)) (fun u hu => zb_Wsome ⟨hn.symm, hu⟩)
  rw [if_neg q3, if_neg q3]
  exact zb_Wbind2 (zb_plainCharges hr h9 h (by omega)) (fun w hw => zb_Wsome ⟨hw.1, hw.2⟩)
theorem zb_plainSplits {r : Nat} (hr : r < 60) (hk : k < 7) (h6 : s0.1 206 r = own) (h9 : s0.1 209 r = pen) (hn : num = zb_n r) (h : zb_AcM bs s0 s) (hb : bs.length < 18) : zb_W (F_Mo_plainSplits (zb_n r) (zb_n k) x s) (fun q => q.1 = (zb_mps num own pen k x).1 ∧ zb_AcM (bs ++ (zb_mps num own pen k x).2) s0 q.2) := by
  have ln : ∀ b : Nat, (bs ++ [b]).length = bs.length + 1 := fun b => by rw [List.length_append]; rfl
  have ap1 : ∀ (b : Nat) (r : List Nat), bs ++ [b] ++ r = bs ++ (b :: r) := fun b r => by rw [List.append_assoc]; rfl
  unfold F_Mo_plainSplits
  refine zb_Wbind2 (zb_body (b := 11) h (by omega)) (fun u hu => zb_Wbind2 (zb_chargesOf (own := own) hr hk h9 hn hu (by rw [ln]; omega)) (fun w hw => zb_Wpos (by rw [zb_ib_n (by omega)]; omega) (zb_Wsome ⟨?_, ?_⟩)))
  · dsimp only
    rw [hw.1, zb_n_ix (by omega), (hw.2.1.1 206 r rfl).trans h6]; rfl
  · have := hw.2; rw [ap1] at this; exact this
theorem zb_throughSplits {r : Nat} (hr : r < 60) (hk : k < 7) (h6 : s0.1 206 r = own) (h9 : s0.1 209 r = pen) (hn : num = zb_n r) (h : zb_AcM bs s0 s) (hb : bs.length < 17) : zb_W (F_Mo_throughSplits (zb_n r) (zb_n k) x s) (fun q => q.1 = (zb_mts num own pen k x).1 ∧ zb_AcM (bs ++ (zb_mts num own pen k x).2) s0 q.2) := by
  have ln : ∀ b : Nat, (bs ++ [b]).length = bs.length + 1 := fun b => by rw [List.length_append]; rfl
  have ap1 : ∀ (b : Nat) (r : List Nat), bs ++ [b] ++ r = bs ++ (b :: r) := fun b r => by rw [List.append_assoc]; rfl
  unfold F_Mo_throughSplits
  refine zb_Wbind2 (zb_body (b := 20) h (by omega)) (fun u hu => zb_Wbind2 (zb_plainSplits hr hk h6 h9 hn hu (by rw [ln]; omega)) (fun w hw => zb_Wsome ⟨?_, ?_⟩))
  · dsimp only
    rw [hw.1, ← hn]; rfl
  · have := hw.2; rw [ap1] at this; exact this
theorem zb_splitsOf {r : Nat} (hr : r < 60) (hk : k < 7) (h6 : s0.1 206 r = own) (h9 : s0.1 209 r = pen) (hn : num = zb_n r) (h : zb_AcM bs s0 s) (hb : bs.length < 16) : zb_W (F_Mo_splitsOf (zb_n r) (zb_n k) x s) (fun q => q.1 = (zb_mso num own pen k x).1 ∧ zb_AcM (bs ++ (zb_mso num own pen k x).2) s0 q.2) := by
  have ln : ∀ b : Nat, (bs ++ [b]).length = bs.length + 1 := fun b => by rw [List.length_append]; rfl
  have ap1 : ∀ (b : Nat) (r : List Nat), bs ++ [b] ++ r = bs ++ (b :: r) := fun b r => by rw [List.append_assoc]; rfl
  unfold F_Mo_splitsOf zb_mso
  have k4 : (zb_n k = (4 : Int32)) = (k = 4) := zb_keq hk 4 (by omega)
  have k1 : (zb_n k = (1 : Int32)) = (k = 1) := zb_keq hk 1 (by omega)
  simp only [k4, k1]
  by_cases q1 : k = 4
  · rw [if_pos q1, if_pos q1]
    refine zb_Wbind2 (zb_body (b := 51) h (by omega)) (fun u hu => zb_Wbind2 (zb_throughSplits hr hk h6 h9 hn hu (by rw [ln]; omega)) (fun w hw => zb_Wsome ⟨by rw [hw.1], ?_⟩))
    have := hw.2; rw [ap1] at this; exact this
  rw [if_neg q1, if_neg q1]
  by_cases q2 : k = 1
  · rw [if_pos q2, if_pos q2]
    exact zb_Wbind2 (zb_throughSplits hr hk h6 h9 hn h (by omega)) (fun w hw => zb_Wsome hw)
  rw [if_neg q2, if_neg q2]
  exact zb_Wbind2 (zb_plainSplits hr hk h6 h9 hn h (by omega)) (fun w hw => zb_Wsome hw)
theorem zb_plainEnds {r : Nat} (hr : r < 60) (hk : k < 7) (h6 : s0.1 206 r = own) (h9 : s0.1 209 r = pen) (hn : num = zb_n r) (h : zb_AcM bs s0 s) (hb : bs.length < 15) : zb_W (F_Mo_plainEnds (zb_n r) (zb_n k) x s) (fun q => q.1 = (zb_mpe num own pen k x).1 ∧ zb_AcM (bs ++ (zb_mpe num own pen k x).2) s0 q.2) := by
  have ln : ∀ b : Nat, (bs ++ [b]).length = bs.length + 1 := fun b => by rw [List.length_append]; rfl
  have ap1 : ∀ (b : Nat) (r : List Nat), bs ++ [b] ++ r = bs ++ (b :: r) := fun b r => by rw [List.append_assoc]; rfl
  unfold F_Mo_plainEnds
  refine zb_Wbind2 (zb_body (b := 12) h (by omega)) (fun u hu => zb_Wbind2 (zb_splitsOf hr hk h6 h9 hn hu (by rw [ln]; omega)) (fun w hw => zb_Wsome ⟨?_, ?_⟩))
  · dsimp only
    rw [hw.1]; rfl
  · have := hw.2; rw [ap1] at this; exact this
theorem zb_endsOf {r : Nat} (hr : r < 60) (hk : k < 7) (h6 : s0.1 206 r = own) (h9 : s0.1 209 r = pen) (hn : num = zb_n r) (h : zb_AcM bs s0 s) (hb : bs.length < 7) : zb_W (F_Mo_endsOf (zb_n r) (zb_n k) x s) (fun q => q.1 = (zb_meo num own pen k x).1 ∧ zb_AcM (bs ++ (zb_meo num own pen k x).2) s0 q.2) := by
  have ln : ∀ b : Nat, (bs ++ [b]).length = bs.length + 1 := fun b => by rw [List.length_append]; rfl
  have ap1 : ∀ (b : Nat) (r : List Nat), bs ++ [b] ++ r = bs ++ (b :: r) := fun b r => by rw [List.append_assoc]; rfl
  have l1 := zb_mpe_len (num := num) (own := own) (pen := pen) (k := k) (x := x)
  have l2 := zb_mc_len (num := num) (own := own) (pen := pen) (k := k) (x := x)
  unfold F_Mo_endsOf zb_meo
  have k4 : (zb_n k = (4 : Int32)) = (k = 4) := zb_keq hk 4 (by omega)
  have k5 : (zb_n k = (5 : Int32)) = (k = 5) := zb_keq hk 5 (by omega)
  have k6 : (zb_n k = (6 : Int32)) = (k = 6) := zb_keq hk 6 (by omega)
  simp only [k4, k5, k6]
  by_cases q1 : k = 4
  · rw [if_pos q1, if_pos q1]
    refine zb_Wbind2 (zb_body (b := 50) h (by omega)) (fun u hu => zb_Wbind2 (zb_plainEnds hr hk h6 h9 hn hu (by rw [ln]; omega)) (fun w hw => zb_Wbind2 (zb_splitsOf hr hk h6 h9 hn hw.2 (by rw [List.length_append, ln]; omega)) (fun z hz => zb_Wsome ⟨by rw [hw.1, hz.1], ?_⟩)))
    have := hz.2; rw [ap1, List.append_assoc] at this; exact this
  rw [if_neg q1, if_neg q1]
  by_cases q2 : k = 5
  · rw [if_pos q2, if_pos q2]
    refine zb_Wbind2 (zb_body (b := 60) h (by omega)) (fun u hu => zb_Wbind2 (zb_plainEnds hr hk h6 h9 hn hu (by rw [ln]; omega)) (fun w hw => zb_Wsome ⟨by rw [hw.1], ?_⟩))
    have := hw.2; rw [ap1] at this; exact this
  rw [if_neg q2, if_neg q2]
  by_cases q3 : k = 6
  · rw [if_pos q3, if_pos q3]
    refine zb_Wbind2 (zb_body (b := 71) h (by omega)) (fun u hu => zb_Wbind2 (zb_chargesOf (own := own) hr hk h9 hn hu (by rw [ln]; omega)) (fun w hw => zb_Wbind2 (zb_plainEnds hr hk h6 h9 hn hw.2 (by rw [List.length_append, ln]; omega)) (fun z hz => zb_Wsome ⟨by rw [hw.1, hz.1], ?_⟩)))
    have := hz.2; rw [ap1, List.append_assoc] at this; exact this
  rw [if_neg q3, if_neg q3]
  exact zb_Wbind2 (zb_plainEnds hr hk h6 h9 hn h (by omega)) (fun w hw => zb_Wsome hw)
def zb_ZAX : List Nat := [175001, 175002, 175003, 175004, 175005, 176]
theorem zb_act_end (h : zb_J1 N A B M O K LO LD LE td Q R T TK W WK Z ZK s) {u q : sv_S} {bs : List Nat} (hl : bs.length ≤ 20) (f1 : zb_fr zb_ZAX s u) (e1 : u.1 175 1 = zb_n bs.length) (e2 : ∀ i, i < bs.length → u.1 176 i = zb_n (bs.getD i 0)) (f2 : zb_AcM bs u q) : zb_J q := by
  have M1 := zb_MM_fr h.2.1 f1 (by decide)
  have X1 := zb_MX_fr h.1.2.1 h.2.2.1 f1 (by decide) (by decide)
  obtain ⟨oT, oA, oP, oE, oB⟩ := h.2.2.2.1
  refine zb_J_of ⟨h.1, zb_MM_fr M1 f2.1 (by decide), zb_MX_fr h.1.2.1 X1 f2.1 (by decide) (by decide), ⟨zb_JT_fr (zb_JT_fr oT f1 (by decide)) f2.1 (by decide), ⟨bs.length, by omega, (f2.1.1 175 1 rfl).trans e1, f2.2.1, fun i hi _ => ?_⟩, zb_JP_fr (zb_JP_fr oP f1 (by decide)) f2.1 (by decide), zb_JE_fr (zb_JE_fr oE f1 (by decide)) f2.1 (by decide), zb_JB_fr (zb_JB_fr oB f1 (by decide)) f2.1 (by decide)⟩, ?_⟩
  · rw [f2.2.2 i hi, f2.1.1 176 i rfl, e2 i hi]
  · rw [f2.1.2, f1.2]; exact h.2.2.2.2
theorem zb_c_act (h : zb_J s) : zb_m11 (F_X_act x1 x2 x3 s) (F_Mo_act x1 x2 x3) s := by
  obtain ⟨N, A, B, M, O, K, LO, LD, LE, td, Q, R, T, TK, W, WK, Z, ZK, h⟩ := h
  obtain ⟨hW, hM, hX, hO, hB⟩ := id h
  have hQ := hW.2.1
  have z1 : (x2 < (0 : Int32)) = (x2.toInt < 0) := by rw [show (0 : Int32) = zb_n 0 from rfl]; exact zb_c_ltn (by omega)
  have z2 : (x2 < (3 : Int32)) = (x2.toInt < 3) := by rw [show (3 : Int32) = zb_n 3 from rfl]; exact zb_c_ltn (by omega)
  have t2 : (2 : Int32).toInt = 2 := by decide
  have t0 : (0 : Int32).toInt = 0 := by decide
  -- forgotten
  have f0 : zb_fr zb_ZAX s (ss_setI s 175 1 (zb_n 0)) := zb_fr_set (zb_fr_refl _ _) rfl
  have X0 := zb_MX_fr hQ hX f0 (by decide) (by decide)
  have m0 : ∀ u : sv_S, zb_AcM [] u (ss_setI u 187 73 (zb_n 0)) := fun u => ⟨zb_fr_set (zb_fr_refl _ _) rfl, zb_set_eq, fun i hi => absurd hi (by simp)⟩
  have xg : F_X_act x1 x2 x3 s = if ¬ (0 ≤ x1.toInt ∧ x1.toInt < Q) then some ((0 : Int32), ss_setI s 175 1 (zb_n 0)) else if x2.toInt < 0 then some ((0 : Int32), ss_setI s 175 1 (zb_n 0)) else if x2.toInt < 3 then (F_Rs_row x1 (ss_setI s 175 1 (zb_n 0))).bind fun r3 => if ss_ok2 (ss_setI s 175 1 (zb_n 0)) r3 5 = true then (F_Ac_run r3 x2 x3 (ss_setI s 175 1 (zb_n 0))).bind fun r5 => some (r5.1, r5.2) else none else some ((0 : Int32), ss_setI s 175 1 (zb_n 0)) := by
    simp only [F_X_act, z1, z2]
    show ((F_Rs_has x1 (ss_setI s 175 1 (zb_n 0))).bind _) = _
    rw [zb_g_rate X0 hQ]
    simp only [Option.bind_some, zb_bz]
    rfl
  have mg : ∀ u, zb_MM N A B M O K LO LD LE td Q R T TK W WK Z ZK u → F_Mo_act x1 x2 x3 u = if ¬ (0 ≤ x1.toInt ∧ x1.toInt < Q) then some ((0 : Int32), ss_setI u 187 73 (zb_n 0)) else if ¬ (0 ≤ x2.toInt ∧ x2.toInt ≤ 2) then some ((0 : Int32), ss_setI u 187 73 (zb_n 0)) else (F_Mo_nowKind x1 (ss_setI u 187 73 (zb_n 0))).bind fun r4 => if x2 = 0 then (F_Mo_chargesOf x1 r4 x3 (ss_setI u 187 73 (zb_n 0))).bind fun r7 => some (r7.1, r7.2) else if x2 = (1 : Int32) then (F_Mo_splitsOf x1 r4 x3 (ss_setI u 187 73 (zb_n 0))).bind fun r6 => some (r6.1, r6.2) else (F_Mo_endsOf x1 r4 x3 (ss_setI u 187 73 (zb_n 0))).bind fun r5 => some (r5.1, r5.2) := by
    intro u hu
    have M0 := zb_MM_fr hu (m0 u).1 (by decide)
    simp only [F_Mo_act]
    show ((F_Mo_isRate x1 (ss_setI u 187 73 (zb_n 0))).bind _) = _
    rw [zb_h_rate M0 hQ]
    simp only [Option.bind_some, zb_bz, zb_h_inL, t0, t2]
    rfl
  have none0 : F_X_act x1 x2 x3 s = some ((0 : Int32), ss_setI s 175 1 (zb_n 0)) → (∀ u, zb_MM N A B M O K LO LD LE td Q R T TK W WK Z ZK u → F_Mo_act x1 x2 x3 u = some ((0 : Int32), ss_setI u 187 73 (zb_n 0))) → zb_m11 (F_X_act x1 x2 x3 s) (F_Mo_act x1 x2 x3) s := by
    intro a b
    unfold zb_m11
    rw [a]
    refine zb_Wsome ⟨zb_keep_fr f0 rfl, ?_⟩
    rw [b _ (zb_MM_fr hM f0 (by decide))]
    exact zb_Wsome ⟨rfl, zb_act_end h (bs := []) (by simp) f0 zb_set_eq (fun i hi => absurd hi (by simp)) (m0 _), zb_keep_trans (zb_keep_fr f0 rfl) (zb_keep_fr (m0 _).1 rfl)⟩
  by_cases q1 : 0 ≤ x1.toInt ∧ x1.toInt < Q
  rotate_left
  · exact none0 (by rw [xg, if_pos q1]) (fun u hu => by rw [mg u hu, if_pos q1])
  rw [if_neg (not_not_intro q1)] at xg
  simp only [if_neg (not_not_intro q1)] at mg
  by_cases q2 : 0 ≤ x2.toInt ∧ x2.toInt ≤ 2
  rotate_left
  · refine none0 ?_ (fun u hu => by rw [mg u hu, if_pos q2])
    rw [xg]
    by_cases w : x2.toInt < 0
    · rw [if_pos w]
    · rw [if_neg w, if_neg (by omega)]
  rw [if_neg (by omega), if_pos (by omega)] at xg
  simp only [if_neg (not_not_intro q2)] at mg
  obtain ⟨r, hr, rfl⟩ := zb_an3 q1
  obtain ⟨a, ha, rfl⟩ := zb_an2 q2
  have ha3 : a < 3 := by omega
  have rk := hW.2.2.1 r hr
  have kn := zb_kn_rg rk
  obtain ⟨k, ek, hk⟩ : ∃ k : Nat, zb_kn (R r) = k ∧ k < 7 := ⟨(zb_kn (R r)).toNat, by omega, by omega⟩
  unfold zb_m11
  rw [xg, zb_row (by omega), Option.bind_some, if_pos (zb_ok91 (by omega))]
  unfold F_Ac_run
  rw [zb_kind_X X0 hr, ek, ← zb_n_i]
  refine zb_Wbind (zb_Wbind (zb_Wsome (zb_Wlet (zb_Wlet (zb_Wlet (zb_Wlet ?_))))))
  have row := hX.2.2.2.2.1.2.1 r hr
  have c0 : ∀ j : Nat, 91 + r ≠ 175 := fun _ => by omega
  simp only [zb_set_ne (show ∀ {j : Nat} {m : Nat}, ¬ (91 + r = 175 ∧ j = m) by intro j m; omega), row.1, row.2.1 2 (by omega) (by omega), row.2.1 5 (by omega) (by omega)]
  generalize hs5 : ss_setI (ss_setI (ss_setI (ss_setI (ss_setI s 175 1 (zb_n 0)) 175 2 (zb_n k)) 175 3 (zb_n r)) 175 4 (zb_i (R r 2))) 175 5 (zb_i (R r 5)) = s5
  have f5 : zb_fr zb_ZAX s s5 := by rw [← hs5]; exact zb_fr_set (zb_fr_set (zb_fr_set (zb_fr_set f0 rfl) rfl) rfl) rfl
  have g1 : s5.1 175 1 = zb_n 0 := by rw [← hs5, zb_set_ne (by omega), zb_set_ne (by omega), zb_set_ne (by omega), zb_set_ne (by omega), zb_set_eq]
  have g2 : s5.1 175 2 = zb_n k := by rw [← hs5, zb_set_ne (by omega), zb_set_ne (by omega), zb_set_ne (by omega), zb_set_eq]
  have g3 : s5.1 175 3 = zb_n r := by rw [← hs5, zb_set_ne (by omega), zb_set_ne (by omega), zb_set_eq]
  have g4 : s5.1 175 4 = zb_i (R r 2) := by rw [← hs5, zb_set_ne (by omega), zb_set_eq]
  have g5 : s5.1 175 5 = zb_i (R r 5) := by rw [← hs5, zb_set_eq]
  rw [g2]
  unfold F_Ac_send
  have len := zb_mact_len (num := zb_n r) (own := zb_i (R r 2)) (pen := zb_i (R r 5)) (k := k) (a := a) (x := x3)
  refine zb_Wbind2 (zb_send (k := k) (num := zb_n r) (own := zb_i (R r 2)) (pen := zb_i (R r 5)) hk (zb_JB_fr hO.2.2.2.2 f5 (by decide)) g2 g3 g4 g5 8 40 k a 0 x3 s5 [] (zb_mact (zb_n r) (zb_i (R r 2)) (zb_i (R r 5)) k a x3).1 (zb_mact (zb_n r) (zb_i (R r 2)) (zb_i (R r 5)) k a x3).2 (by omega) hk ha3 (zb_acp_m hk ha3) (by simp only [List.length_nil]; omega) (by omega) ⟨zb_fr_refl _ _, g1, fun i hi => absurd hi (by simp)⟩) (fun v hv => zb_Wsome (zb_Wsome ?_))
  obtain ⟨v1, v2, v3, v4⟩ := hv
  rw [List.nil_append] at v3 v4
  have fv : zb_fr zb_ZAX s v.2 := zb_fr_trans f5 (zb_fr_mono v2 (by decide))
  refine ⟨zb_keep_fr fv rfl, ?_⟩
  have Mv := zb_MM_fr hM fv (by decide)
  have M0 := zb_MM_fr Mv (m0 v.2).1 (by decide)
  dsimp only
  rw [mg _ Mv, zb_kind_M hW M0 hr, ek, ← zb_n_i, Option.bind_some]
  have h6 : v.2.1 206 r = zb_i (R r 2) := zb_fldM Mv.2.2.2.1 hr (f := 2) (c := 206) (by omega) (by omega) rfl
  have h9 : v.2.1 209 r = zb_i (R r 5) := zb_fldM Mv.2.2.2.1 hr (f := 5) (c := 209) (by omega) (by omega) rfl
  have fin : ∀ q : Int32 × sv_S, q.1 = (zb_mact (zb_n r) (zb_i (R r 2)) (zb_i (R r 5)) k a x3).1 → zb_AcM ([] ++ (zb_mact (zb_n r) (zb_i (R r 2)) (zb_i (R r 5)) k a x3).2) v.2 q.2 → (q.1 = v.1 ∧ zb_J q.2 ∧ zb_keep s q.2) := by
    intro q c1 c2
    rw [List.nil_append] at c2
    exact ⟨c1.trans v1.symm, zb_act_end h (by omega) fv v3 v4 c2, zb_keep_trans (zb_keep_fr fv rfl) (zb_keep_fr c2.1 rfl)⟩
  have ea : ∀ j : Nat, j < 3 → (zb_n a = zb_n j) = (a = j) := fun j hj => zb_n_eq (by omega) (by omega)
  by_cases w0 : a = 0
  · refine zb_Wpos (by rw [w0]; rfl) ?_
    refine zb_Wbind2 (zb_chargesOf (own := zb_i (R r 2)) (by omega) hk h9 rfl (m0 v.2) (by simp)) (fun q hq => zb_Wsome ?_)
    have em : zb_mact (zb_n r) (zb_i (R r 2)) (zb_i (R r 5)) k a x3 = zb_mc (zb_n r) (zb_i (R r 2)) (zb_i (R r 5)) k x3 := by unfold zb_mact; rw [if_pos w0]
    rw [em] at fin
    exact fin q hq.1 hq.2
  refine zb_Wneg (by rw [show (0 : Int32) = zb_n 0 from rfl, ea 0 (by omega)]; exact w0) ?_
  by_cases w1 : a = 1
  · refine zb_Wpos (by rw [w1]; rfl) ?_
    refine zb_Wbind2 (zb_splitsOf (by omega) hk h6 h9 rfl (m0 v.2) (by simp)) (fun q hq => zb_Wsome ?_)
    have em : zb_mact (zb_n r) (zb_i (R r 2)) (zb_i (R r 5)) k a x3 = zb_mso (zb_n r) (zb_i (R r 2)) (zb_i (R r 5)) k x3 := by unfold zb_mact; rw [if_neg w0, if_pos w1]
    rw [em] at fin
    exact fin q hq.1 hq.2
  refine zb_Wneg (by rw [show (1 : Int32) = zb_n 1 from rfl, ea 1 (by omega)]; exact w1) ?_
  refine zb_Wbind2 (zb_endsOf (by omega) hk h6 h9 rfl (m0 v.2) (by simp)) (fun q hq => zb_Wsome ?_)
  have em : zb_mact (zb_n r) (zb_i (R r 2)) (zb_i (R r 5)) k a x3 = zb_meo (zb_n r) (zb_i (R r 2)) (zb_i (R r 5)) k x3 := by unfold zb_mact; rw [if_neg w0, if_neg w1]
  rw [em] at fin
  exact fin q hq.1 hq.2
end ACT
