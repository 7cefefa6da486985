/-! PURE LAYER: both readers in step: helpers -/
theorem OutF_now {S : CS} {M : MS} {b : Nat → Nat} {t : Nat} {tx0 : Nat → Int32} {ct s e nc nr : Nat} {C C' : List (Nat × Nat)} {st : List Nat} {op om : Nat} {iw : Int32} {c : CS} {m m0 : MS} {W : (CS → Prop) → Prop} {f : Nat} (hf : 0 < f ∧ f < 9) (hc : CC S ct s e nc C op c) (hm : CM M b t tx0 ct s e nr C' st om iw m0) (hW : ∀ c', FCs S f s c' → rv (wC_X6_fail (nI f) c) c' → ∃ c'', FCs S f s c'' ∧ rv W c'') (hL : ∀ post : Int32 → MS → Prop, post (nI f) m0 → Lp post m) : OutF S M t tx0 W m := by
  obtain ⟨c', a1, a2⟩ := CC_fail hc f
  obtain ⟨c'', b1, b2⟩ := hW c' a1 a2
  exact ⟨f, s, c'', m0, hf, b1, CM_FM hm, b2, hL⟩
theorem op_both {S : CS} {M : MS} {n : Nat} {b : Nat → Nat} {t s0 : Nat} {tx0 : Nat → Int32} (H : HX S M n b t s0) {ct s e nc nr : Nat} {C : List (Nat × Nat)} {st : List Nat} {op : Nat} {c : CS} {m : MS} (hT : TN n ct s e nc nr) (hc : CC S ct s e nc C op c) (hm : CM M b t tx0 ct s e nr C st op 0 m) (lt : op < 8) (hl : st.length < 160) {x : Nat} (hx : x < 50) : ∃ ct1 s1 e1 nc1 nr1 c1 m1, e ≤ s1 ∧ TN n ct1 s1 e1 nc1 nr1 ∧ CC S ct1 s1 e1 nc1 C (op + 1) c1 ∧ CM M b t tx0 ct1 s1 e1 nr1 C (x :: st) (op + 1) 0 m1 ∧ (∀ post : Int32 → CS → Prop, post 1 c1 → wC_X6_opens c post) ∧ (∀ post : Int32 → MS → Prop, post 0 m1 → wM_opened (nI x) m post) := by
  obtain ⟨ct1, s1, e1, nc1, nr1, a1, a2, aC, aM⟩ := both_adv H (tx0 := tx0) hT
  obtain ⟨t1, t2, t3, t4, t5, t6⟩ := CC_token hc
  obtain ⟨c1, k1, k2⟩ := aC _ _ _ (CC_open hc (op + 1))
  obtain ⟨m1, g1, g2⟩ := m_opened hm lt hl hx
  obtain ⟨m2, k3, k4⟩ := aM _ _ _ _ _ g1
  refine ⟨ct1, s1, e1, nc1, nr1, c1, m2, a1, a2, k1, k3, ?_, fun post hp => g2 m2 post k4 hp⟩
  intro post hp
  unfold wC_X6_opens
  rw [p_all, t2, nI_1]
  exact p_yes (nI_lt (b := 8) (by omega) (by decide)) (k2 _ hp)
theorem op_8 {S : CS} {ct s e nc : Nat} {C : List (Nat × Nat)} {op : Nat} {c c' : CS} (hc : CC S ct s e nc C op c) (h8 : op = 8) (hr : rv (wC_X6_fail 3 c) c') (post : Int32 → CS → Prop) (hp : post 0 c') : wC_X6_opens c post := by
  obtain ⟨t1, t2, t3, t4, t5, t6⟩ := CC_token hc
  unfold wC_X6_opens
  rw [t2, h8]
  exact p_no (by decide) (hr _ hp)
theorem ex_yes {S : CS} {ct s e nc : Nat} {C : List (Nat × Nat)} {op : Nat} {c c' : CS} (hc : CC S ct s e nc C op c) {k : Nat} {i : Int32} (hi : i = nI k) (h : ct = k) (hr : rv (wC_X6_advance c) c') : rv (wC_X6_expect i c) c' := by
  rw [hi]
  obtain ⟨t1, t2, t3, t4, t5, t6⟩ := CC_token hc
  intro post hp
  unfold wC_X6_expect
  rw [t1, h]
  exact p_yes rfl (hr _ hp)
theorem ex_no {S : CS} {ct s e nc : Nat} {C : List (Nat × Nat)} {op : Nat} {c c' : CS} (hc : CC S ct s e nc C op c) {k : Nat} {i : Int32} (hi : i = nI k) (h45 : ct ≤ 45) (hk : k ≤ 45) (h : ¬ ct = k) (hr : rv (wC_X6_fail 1 c) c') : rv (wC_X6_expect i c) c' := by
  rw [hi]
  obtain ⟨t1, t2, t3, t4, t5, t6⟩ := CC_token hc
  intro post hp
  unfold wC_X6_expect
  rw [t1]
  exact p_no (fun z => h ((nI_eq (by omega) (by omega)).mp z)) (hr _ hp)
theorem ask_no (x : Nat) (st : List Nat) (h : (x < 40 ∧ 3 < rkN x) ∨ (40 ≤ x ∧ x < 50 ∧ x ≠ 43)) : askA (x :: st) = false := by
  show (decide (opV (x :: st) = 43) && (decide (40 ≤ x) || (decide (1 ≤ rkN x) && decide (rkN x ≤ 3)))) = false
  rcases h with ⟨h1, h2⟩ | ⟨h1, h2, h3⟩
  · rw [decide_eq_false (show ¬ 40 ≤ x by omega), decide_eq_false (show ¬ rkN x ≤ 3 by omega), Bool.and_false, Bool.false_or, Bool.and_false]
  · have e : opV (x :: st) = nI x := if_pos h1
    have ne : ¬ (opV (x :: st) = 43) := by
      rw [e]
      exact fun z => h3 ((nI_eq (b := 43) (by omega) (by decide)).mp z)
    rw [decide_eq_false ne, Bool.false_and]
/-- the open one is given back -/
def clo (post : CS → Prop) (S_15 : CS) : Prop := ∀ S_16 : CS, S_16 = (cx_set_r_open S_15 ((cx_r_open S_15) - 1)) → post S_16
theorem clo_ok {S : CS} {ct s e nc : Nat} {C : List (Nat × Nat)} {op : Nat} {c : CS} (hc : CC S ct s e nc C (op + 1) c) : ∃ c', CC S ct s e nc C op c' ∧ ∀ post : CS → Prop, post c' → clo post c := by
  obtain ⟨t1, t2, t3, t4, t5, t6⟩ := CC_token hc
  refine ⟨_, CC_open hc op, ?_⟩
  intro post hp z ez
  rw [ez, t2, nI_pred]
  exact hp
theorem clo_f {S : CS} {f s : Nat} {c : CS} (h : FCs S f s c) : ∃ c', FCs S f s c' ∧ ∀ post : CS → Prop, post c' → clo post c :=
  ⟨_, fc_open h _, fun post hp z ez => by rw [ez]; exact hp⟩
def emC (k : Int32) (post : CS → Prop) (c : CS) : Prop := wC_X6_emit k 0 c (fun S_15 => clo post S_15)
theorem emC_f {S : CS} {f s : Nat} {c : CS} (h : FCs S f s c) (k : Int32) : ∃ c', FCs S f s c' ∧ ∀ post : CS → Prop, post c' → emC k post c := by
  obtain ⟨c1, a1, a2⟩ := fc_emit h k 0
  obtain ⟨c2, b1, b2⟩ := clo_f a1
  exact ⟨c2, b1, fun post hp => a2 _ (b2 post hp)⟩
theorem emC_ok {S : CS} {ct s e nc : Nat} {C : List (Nat × Nat)} {op : Nat} {c : CS} (hc : CC S ct s e nc C (op + 1) c) (hC : C.length < 300) {x : Nat} {k : Int32} (hk : k = nI (opC x)) : ∃ c', CC S ct s e nc (C ++ [(x, 0)]) op c' ∧ ∀ post : CS → Prop, post c' → emC k post c := by
  rw [hk]
  obtain ⟨c1, a1, a2⟩ := CC_emit hc hC x 0
  obtain ⟨c2, b1, b2⟩ := clo_ok a1
  exact ⟨c2, b1, fun post hp => a2 _ (b2 post hp)⟩
/-- one, by its first token -/
theorem one_at {S : CS} {ct s e nc : Nat} {C : List (Nat × Nat)} {op : Nat} {c : CS} (hc : CC S ct s e nc C op c) (h45 : ct ≤ 45) (d : Nat) (post : CS → Prop)
  (h20 : ct = 20 → wC_X6_opens c (fun r_1 S_2 => (r_1 = 0 → post S_2) ∧ (¬ (r_1 = 0) → wC_rd d 2 S_2 (fun S_5 => wC_X6_expect 21 S_5 (fun S_7 => wC_rd d 2 S_7 (fun S_9 => wC_X6_expect 19 S_9 (fun S_11 => wC_rd d 2 S_11 (fun S_13 => emC 20 post S_13))))))))
  (h22 : ct = 22 → wC_X6_opens c (fun r_1 S_2 => (r_1 = 0 → post S_2) ∧ (¬ (r_1 = 0) → wC_rd d 2 S_2 (fun S_5 => emC 22 post S_5))))
  (h23 : ct = 23 → wC_X6_opens c (fun r_1 S_2 => (r_1 = 0 → post S_2) ∧ (¬ (r_1 = 0) → wC_rd d 3 S_2 (fun S_5 => clo post S_5))))
  (h32 : ct = 32 → wC_X6_readPlainNumber c (fun S_35 => post S_35))
  (h40 : ct = 40 → wC_X6_opens c (fun r_1 S_2 => (r_1 = 0 → post S_2) ∧ (¬ (r_1 = 0) → wC_rd d 2 S_2 (fun S_5 => emC 46 post S_5))))
  (h43 : ct = 43 → wC_X6_opens c (fun r_1 S_2 => (r_1 = 0 → post S_2) ∧ (¬ (r_1 = 0) → wC_rd d 0 S_2 (fun S_5 => wC_X6_expect 44 S_5 (fun S_7 => clo post S_7)))))
  (hn : ct ≠ 20 → ct ≠ 22 → ct ≠ 23 → ct ≠ 32 → ct ≠ 40 → ct ≠ 43 → wC_X6_readName c (fun S_56 => post S_56)) : wC_rd (d + 1) 2 c post := by
  obtain ⟨t1, t2, t3, t4, t5, t6⟩ := CC_token hc
  have E : ∀ k, k ≤ 45 → (nI ct = nI k) = (ct = k) := fun k hk => propext (nI_eq (by omega) (by omega))
  unfold emC clo at h20 h22 h40
  unfold clo at h23 h43
  show wB_X6_readOne (wC_rd d) c post
  unfold wB_X6_readOne
  rw [t1]
  exact ⟨fun z => h20 ((E 20 (by decide)).mp z), fun z => h22 ((E 22 (by decide)).mp z), fun z => h23 ((E 23 (by decide)).mp z), fun z => h32 ((E 32 (by decide)).mp z), fun z => h40 ((E 40 (by decide)).mp z), fun z => h43 ((E 43 (by decide)).mp z), fun z1 z2 z3 z4 z5 z6 => hn (fun q => z1 ((E 20 (by decide)).mpr q)) (fun q => z2 ((E 22 (by decide)).mpr q)) (fun q => z3 ((E 23 (by decide)).mpr q)) (fun q => z4 ((E 32 (by decide)).mpr q)) (fun q => z5 ((E 40 (by decide)).mpr q)) (fun q => z6 ((E 43 (by decide)).mpr q))⟩
