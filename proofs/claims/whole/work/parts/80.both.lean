/-! PURE LAYER: both readers in step: both, either -/
theorem bo_loop {S : CS} {M : MS} {n : Nat} {b : Nat → Nat} {t s0 : Nat} {tx0 : Nat → Int32} (H : HX S M n b t s0) {d op : Nat} (hi : P6 S M n b t s0 tx0 d) (ho : op ≤ 8) (hd : 7 * (8 - op) + 4 ≤ d) {C0 : List (Nat × Nat)} {st : List Nat} {T : List Bool} (hT : T.length + 2 ≤ 5 * op) (hst : st.length + 2 ≤ 6 * op) (hI : hdI 2 st) : ∀ (k i ct s e nc nr : Nat) (E D : List (Nat × Nat)) (A : List Nat) (c : CS) (m : MS), i + k = 300 → i ≤ s → TN n ct s e nc nr → CC S ct s e nc (C0 ++ E) op c → CM M b t tx0 ct s e nr D (A ++ st) (op + cntO A) 1 m → C0 ++ E = D ++ opsL A → (C0 ++ E).length + st.length ≤ s → tyRun s0 E T = some (false :: T) → (∀ y, y ∈ A → y < 40) → (∀ y, y ∈ A → 2 ≤ rkN y) → A.length + op ≤ 12 → cmB (A ++ st) = true → (ct ≠ 39 ∧ ct ≠ 40 ∧ ct ≠ 41 ∧ ct ≠ 42) → True → OkX S M n b t s0 tx0 s op C0 st T false (fun ct' A => (ct' ≠ 39 ∧ ct' ≠ 40 ∧ ct' ≠ 41 ∧ ct' ≠ 42) ∧ (ct' ≠ 28) ∧ (∀ y, y ∈ A → 2 ≤ rkN y) ∧ A.length + op ≤ 12 ∧ cmB (A ++ st) = true) (fun post => ∃ N, wC_X6_readBoth_6 (wC_rd d) post N (nI i) c) m ∨ OutF S M t tx0 (fun post => ∃ N, wC_X6_readBoth_6 (wC_rd d) post N (nI i) c) m := by
  intro k
  obtain ⟨i1, i2, i3, i4, i5, i6⟩ := hdI_all hI
  induction k with
  | zero =>
    intro i ct s e nc nr E D A c m ei his hT1 hc hm hCD hlen hty hA hA2 hA1 hcm h39 hx28
    obtain ⟨t1, t2, t3, t4, t5, t6⟩ := CC_token hc
    have h300 := TN_300 H hT1
    have e31 : ct = 31 := by
      by_cases z : ct = 31
      · exact z
      · have := hT1.2.2.1 z
        omega
    refine Or.inl ⟨ct, s, e, nc, nr, E, D, A, c, m, Nat.le_refl _, hT1, hc, hm, hCD, hlen, hty, hA, ⟨h39, by omega, hA2, hA1, hcm⟩, ?_, fun post h => h⟩
    intro post hp
    refine ⟨1, ?_⟩
    rw [wC_X6_readBoth_6]
    exact p_yes (nI_le (a := 300) (by omega) (by omega)) hp
  | succ k ih =>
    intro i ct s e nc nr E D A c m ei his hT1 hc hm hCD hlen hty hA hA2 hA1 hcm h39 hx28
    obtain ⟨t1, t2, t3, t4, t5, t6⟩ := CC_token hc
    have h300 := TN_300 H hT1
    have h45 := hT1.2.2.2.2
    have eK : (nI ct = 28) = (ct = 28) := propext (nI_eq (b := 28) (by omega) (by decide))
    have hlA : (A ++ st).length < 160 := by
      rw [List.length_append]
      omega
    have v1 : opV (A ++ st) = 43 := (opV_skip A st hA).trans i5
    have cl := cntO_le A
    by_cases sg : ct = 28
    · have bt : btI ct (A ++ st) = nI 21 := by
        unfold btI
        rw [if_neg h39.1, if_neg h39.2.1, if_neg h39.2.2.1, if_neg h39.2.2.2, if_pos v1, if_pos hcm, if_pos sg]
        rfl
      have lenD : D.length + A.length = (C0 ++ E).length := by
        rw [hCD, List.length_append, show (opsL A).length = A.length from List.length_map _]
      obtain ⟨m1, g1, g2⟩ := bh_op H hm (x := 21) (r := 2) (by decide) bt (by decide) i1 hlA hA2 (by omega) (by omega) (by omega)
      rw [Nat.add_sub_cancel, ← hCD] at g1
      obtain ⟨ct1, s1, e1, nc1, nr1, a1, a2, aC, aM⟩ := both_adv H (tx0 := tx0) hT1
      have a21 := a2.1
      obtain ⟨c1, k1, k2⟩ := aC _ _ _ hc
      obtain ⟨m2, k3, k4⟩ := aM _ _ _ _ _ g1
      have sm := hT1.2.2.1 (by omega)
      have goB : ∀ post : Int32 → MS → Prop, Lp post m2 → Lp post m := fun post h => Lp_behind hm post (g2 m2 k4) h
      have open6 : ∀ (post : CS → Prop) (N : Nat), wC_rd d 6 c1 (fun S_6 => wC_X6_emit 28 0 S_6 (fun S_8 => wC_X6_readBoth_6 (wC_rd d) post N (nI (i + 1)) S_8)) → wC_X6_readBoth_6 (wC_rd d) post (N + 1) (nI i) c := by
        intro post N h
        rw [wC_X6_readBoth_6, t1, eK, nI_1 i]
        exact p_no (nI_ge (b := 300) (by omega) (by decide)) (p_yes sg (k2 _ h))
      rcases hi op ct1 s1 e1 nc1 nr1 (C0 ++ E) (21 :: st) (false :: T) c1 m2 ho hd a2 k1 k3 (by show (C0 ++ E).length + (st.length + 1) ≤ s1; omega) (by show T.length + 1 + 1 ≤ _; omega) (by show st.length + 1 + 1 ≤ _; omega) (hdI_put hI (by decide) (by decide)) with ⟨ct2, s2, e2, nc2, nr2, E2, D2, A2, c2, m3, b1, b2, b3, b4, b5, b6, b7, b8, ⟨b9, b10, b11, b12, b13⟩, b14, b15⟩ | F
      · have h300' := TN_300 H b2
        have b6' : (C0 ++ E ++ E2).length + (st.length + 1) ≤ s2 := b6
        obtain ⟨c3, k5, k6⟩ := CC_emit b3 (by omega) 21 0
        have eC : C0 ++ E ++ E2 ++ [(21, 0)] = C0 ++ (E ++ E2 ++ [(21, 0)]) := by
          simp only [List.append_assoc]
        have cn : op + cntO (A2 ++ [21]) = op + cntO A2 := by
          rw [cntO_app, cnt_1 (by decide), Nat.add_zero]
        rw [eC] at k5
        rw [app_1, ← cn] at b4
        rw [app_1] at b13
        have ty2 : tyRun s0 (E ++ E2 ++ [(21, 0)]) T = some (false :: T) := tyRun_two s0 (E ++ E2) [(21, 0)] T _ _ (tyRun_two s0 E E2 T _ _ hty b7) (tyRun_1 s0 _ _ _ rfl)
        have ih' := ih (i + 1) ct2 s2 e2 nc2 nr2 (E ++ E2 ++ [(21, 0)]) D2 (A2 ++ [21]) c3 m3 (by omega) (by omega) b2 k5 b4 (by rw [← eC, b5, opsL_app, List.append_assoc]) (by rw [← eC, List.length_append]; show (C0 ++ E ++ E2).length + 1 + st.length ≤ s2; omega) ty2 (mem_1 b8 (by decide)) (mem_1 (p := fun y => 2 ≤ rkN y) (fun y hy => by have := b11 y hy; show 2 ≤ rkN y; omega) (by decide)) (by rw [List.length_append]; show A2.length + 1 + op ≤ 12; omega) b13 b9 b10
        have step : ∀ c', rv (fun post => ∃ N, wC_X6_readBoth_6 (wC_rd d) post N (nI (i + 1)) c3) c' → rv (fun post => ∃ N, wC_X6_readBoth_6 (wC_rd d) post N (nI i) c) c' := by
          intro c' hr post hp
          obtain ⟨N, hN⟩ := hr post hp
          exact ⟨N + 1, open6 post N (b14 _ (k6 _ hN))⟩
        rcases ih' with ⟨ct', s', e', nc', nr', E', D', A', c', m', z1, z2, z3, z4, z5, z6, z7, z8, z9, z10, z11⟩ | F
        · exact Or.inl ⟨ct', s', e', nc', nr', E', D', A', c', m', by omega, z2, z3, z4, z5, z6, z7, z8, z9, step c' z10, fun post h => goB post (b15 post (z11 post h))⟩
        · exact Or.inr (OutF_map F (fun f s' c' _ hF => ⟨c', hF, step c'⟩) (fun post h => goB post (b15 post h)))
      · refine Or.inr (OutF_map F (fun f s' c' hf hF => ?_) goB)
        obtain ⟨c3, k5, k6⟩ := fc_emit hF 28 0
        refine ⟨c3, k5, fun hr post hp => ⟨1 + 1, open6 post 1 (hr _ (k6 _ (fc_both6 k5 _ _ _ hp)))⟩⟩
    · refine Or.inl ⟨ct, s, e, nc, nr, E, D, A, c, m, Nat.le_refl _, hT1, hc, hm, hCD, hlen, hty, hA, ⟨h39, sg, hA2, hA1, hcm⟩, ?_, fun post h => h⟩
      intro post hp
      refine ⟨1, ?_⟩
      rw [wC_X6_readBoth_6, t1, eK]
      exact p_no (nI_ge (b := 300) (by omega) (by decide)) (p_no sg hp)
theorem step_5 {S : CS} {M : MS} {n : Nat} {b : Nat → Nat} {t s0 : Nat} {tx0 : Nat → Int32} (H : HX S M n b t s0) {d : Nat} (hi : P6 S M n b t s0 tx0 d) : P5 S M n b t s0 tx0 (d + 1) := by
  intro op ct s e nc nr C st T c m ho hd hT1 hc hm hlen hT hst hI
  have h300 := TN_300 H hT1
  have start : ∀ (c1 c' : CS), rv (wC_rd d 6 c) c1 → rv (fun post => ∃ N, wC_X6_readBoth_6 (wC_rd d) post N (nI 0) c1) c' → rv (wC_rd (d + 1) 5 c) c' := by
    intro c1 c' h1 h2' post hp
    show wB_X6_readBoth (wC_rd d) c post
    exact h1 _ (h2' post hp)
  have hI2 : hdI 4 st := by
    cases st with
    | nil => exact hI
    | cons x l => exact ⟨hI.1, by have := hI.2.1; omega, hI.2.2⟩
  rcases hi op ct s e nc nr C st T c m ho (by omega) hT1 hc hm hlen (by omega) (by omega) hI2 with ⟨ct2, s2, e2, nc2, nr2, E2, D2, A2, c2, m3, b1, b2, b3, b4, b5, b6, b7, b8, ⟨b9, b10, b11, b12, b13⟩, b14, b15⟩ | F
  · rcases bo_loop H hi ho (by omega) hT hst hI 300 0 ct2 s2 e2 nc2 nr2 E2 D2 A2 c2 m3 (by omega) (by omega) b2 b3 b4 b5 b6 b7 b8 (fun y hy => by have := b11 y hy; omega) (by omega) b13 b9 b10 with ⟨ct', s', e', nc', nr', E', D', A', c', m', z1, z2, z3, z4, z5, z6, z7, z8, z9, z10, z11⟩ | F
    · exact Or.inl ⟨ct', s', e', nc', nr', E', D', A', c', m', by omega, z2, z3, z4, z5, z6, z7, z8, z9, start c2 c' b14 z10, fun post h => b15 post (z11 post h)⟩
    · exact Or.inr (OutF_map F (fun f s' c' _ hF => ⟨c', hF, start c2 c' b14⟩) b15)
  · refine Or.inr (OutF_map F (fun f s' c' hf hF => ⟨c', hF, fun hr => start c' c' hr (fun post hp => ⟨1, fc_both6 hF _ _ _ hp⟩)⟩) (fun post h => h))
theorem ei_loop {S : CS} {M : MS} {n : Nat} {b : Nat → Nat} {t s0 : Nat} {tx0 : Nat → Int32} (H : HX S M n b t s0) {d op : Nat} (hi : P5 S M n b t s0 tx0 d) (ho : op ≤ 8) (hd : 7 * (8 - op) + 5 ≤ d) {C0 : List (Nat × Nat)} {st : List Nat} {T : List Bool} (hT : T.length + 3 ≤ 5 * op) (hst : st.length + 3 ≤ 6 * op) (hI : hdI 1 st) : ∀ (k i ct s e nc nr : Nat) (E D : List (Nat × Nat)) (A : List Nat) (c : CS) (m : MS), i + k = 300 → i ≤ s → TN n ct s e nc nr → CC S ct s e nc (C0 ++ E) op c → CM M b t tx0 ct s e nr D (A ++ st) (op + cntO A) 1 m → C0 ++ E = D ++ opsL A → (C0 ++ E).length + st.length ≤ s → tyRun s0 E T = some (false :: T) → (∀ y, y ∈ A → y < 40) → (∀ y, y ∈ A → 1 ≤ rkN y) → A.length + op ≤ 13 → cmB (A ++ st) = true → (ct ≠ 39 ∧ ct ≠ 40 ∧ ct ≠ 41 ∧ ct ≠ 42) → ct ≠ 28 → OkX S M n b t s0 tx0 s op C0 st T false (fun ct' A => (ct' ≠ 39 ∧ ct' ≠ 40 ∧ ct' ≠ 41 ∧ ct' ≠ 42) ∧ (ct' ≠ 28 ∧ ct' ≠ 27) ∧ (∀ y, y ∈ A → 1 ≤ rkN y) ∧ A.length + op ≤ 13 ∧ cmB (A ++ st) = true) (fun post => ∃ N, wC_X6_readEither_6 (wC_rd d) post N (nI i) c) m ∨ OutF S M t tx0 (fun post => ∃ N, wC_X6_readEither_6 (wC_rd d) post N (nI i) c) m := by
  intro k
  obtain ⟨i1, i2, i3, i4, i5, i6⟩ := hdI_all hI
  induction k with
  | zero =>
    intro i ct s e nc nr E D A c m ei his hT1 hc hm hCD hlen hty hA hA2 hA1 hcm h39 hx28
    obtain ⟨t1, t2, t3, t4, t5, t6⟩ := CC_token hc
    have h300 := TN_300 H hT1
    have e31 : ct = 31 := by
      by_cases z : ct = 31
      · exact z
      · have := hT1.2.2.1 z
        omega
    refine Or.inl ⟨ct, s, e, nc, nr, E, D, A, c, m, Nat.le_refl _, hT1, hc, hm, hCD, hlen, hty, hA, ⟨h39, ⟨hx28, by omega⟩, hA2, hA1, hcm⟩, ?_, fun post h => h⟩
    intro post hp
    refine ⟨1, ?_⟩
    rw [wC_X6_readEither_6]
    exact p_yes (nI_le (a := 300) (by omega) (by omega)) hp
  | succ k ih =>
    intro i ct s e nc nr E D A c m ei his hT1 hc hm hCD hlen hty hA hA2 hA1 hcm h39 hx28
    obtain ⟨t1, t2, t3, t4, t5, t6⟩ := CC_token hc
    have h300 := TN_300 H hT1
    have h45 := hT1.2.2.2.2
    have eK : (nI ct = 27) = (ct = 27) := propext (nI_eq (b := 27) (by omega) (by decide))
    have hlA : (A ++ st).length < 160 := by
      rw [List.length_append]
      omega
    have v1 : opV (A ++ st) = 43 := (opV_skip A st hA).trans i5
    have cl := cntO_le A
    by_cases sg : ct = 27
    · have bt : btI ct (A ++ st) = nI 22 := by
        unfold btI
        rw [if_neg h39.1, if_neg h39.2.1, if_neg h39.2.2.1, if_neg h39.2.2.2, if_pos v1, if_pos hcm, if_neg hx28, if_pos sg]
        rfl
      have lenD : D.length + A.length = (C0 ++ E).length := by
        rw [hCD, List.length_append, show (opsL A).length = A.length from List.length_map _]
      obtain ⟨m1, g1, g2⟩ := bh_op H hm (x := 22) (r := 1) (by decide) bt (by decide) i1 hlA hA2 (by omega) (by omega) (by omega)
      rw [Nat.add_sub_cancel, ← hCD] at g1
      obtain ⟨ct1, s1, e1, nc1, nr1, a1, a2, aC, aM⟩ := both_adv H (tx0 := tx0) hT1
      have a21 := a2.1
      obtain ⟨c1, k1, k2⟩ := aC _ _ _ hc
      obtain ⟨m2, k3, k4⟩ := aM _ _ _ _ _ g1
      have sm := hT1.2.2.1 (by omega)
      have goB : ∀ post : Int32 → MS → Prop, Lp post m2 → Lp post m := fun post h => Lp_behind hm post (g2 m2 k4) h
      have open6 : ∀ (post : CS → Prop) (N : Nat), wC_rd d 5 c1 (fun S_6 => wC_X6_emit 27 0 S_6 (fun S_8 => wC_X6_readEither_6 (wC_rd d) post N (nI (i + 1)) S_8)) → wC_X6_readEither_6 (wC_rd d) post (N + 1) (nI i) c := by
        intro post N h
        rw [wC_X6_readEither_6, t1, eK, nI_1 i]
        exact p_no (nI_ge (b := 300) (by omega) (by decide)) (p_yes sg (k2 _ h))
      rcases hi op ct1 s1 e1 nc1 nr1 (C0 ++ E) (22 :: st) (false :: T) c1 m2 ho hd a2 k1 k3 (by show (C0 ++ E).length + (st.length + 1) ≤ s1; omega) (by show T.length + 1 + 2 ≤ _; omega) (by show st.length + 1 + 2 ≤ _; omega) (hdI_put hI (by decide) (by decide)) with ⟨ct2, s2, e2, nc2, nr2, E2, D2, A2, c2, m3, b1, b2, b3, b4, b5, b6, b7, b8, ⟨b9, b10, b11, b12, b13⟩, b14, b15⟩ | F
      · have h300' := TN_300 H b2
        have b6' : (C0 ++ E ++ E2).length + (st.length + 1) ≤ s2 := b6
        obtain ⟨c3, k5, k6⟩ := CC_emit b3 (by omega) 22 0
        have eC : C0 ++ E ++ E2 ++ [(22, 0)] = C0 ++ (E ++ E2 ++ [(22, 0)]) := by
          simp only [List.append_assoc]
        have cn : op + cntO (A2 ++ [22]) = op + cntO A2 := by
          rw [cntO_app, cnt_1 (by decide), Nat.add_zero]
        rw [eC] at k5
        rw [app_1, ← cn] at b4
        rw [app_1] at b13
        have ty2 : tyRun s0 (E ++ E2 ++ [(22, 0)]) T = some (false :: T) := tyRun_two s0 (E ++ E2) [(22, 0)] T _ _ (tyRun_two s0 E E2 T _ _ hty b7) (tyRun_1 s0 _ _ _ rfl)
        have ih' := ih (i + 1) ct2 s2 e2 nc2 nr2 (E ++ E2 ++ [(22, 0)]) D2 (A2 ++ [22]) c3 m3 (by omega) (by omega) b2 k5 b4 (by rw [← eC, b5, opsL_app, List.append_assoc]) (by rw [← eC, List.length_append]; show (C0 ++ E ++ E2).length + 1 + st.length ≤ s2; omega) ty2 (mem_1 b8 (by decide)) (mem_1 (p := fun y => 1 ≤ rkN y) (fun y hy => by have := b11 y hy; show 1 ≤ rkN y; omega) (by decide)) (by rw [List.length_append]; show A2.length + 1 + op ≤ 13; omega) b13 b9 b10
        have step : ∀ c', rv (fun post => ∃ N, wC_X6_readEither_6 (wC_rd d) post N (nI (i + 1)) c3) c' → rv (fun post => ∃ N, wC_X6_readEither_6 (wC_rd d) post N (nI i) c) c' := by
          intro c' hr post hp
          obtain ⟨N, hN⟩ := hr post hp
          exact ⟨N + 1, open6 post N (b14 _ (k6 _ hN))⟩
        rcases ih' with ⟨ct', s', e', nc', nr', E', D', A', c', m', z1, z2, z3, z4, z5, z6, z7, z8, z9, z10, z11⟩ | F
        · exact Or.inl ⟨ct', s', e', nc', nr', E', D', A', c', m', by omega, z2, z3, z4, z5, z6, z7, z8, z9, step c' z10, fun post h => goB post (b15 post (z11 post h))⟩
        · exact Or.inr (OutF_map F (fun f s' c' _ hF => ⟨c', hF, step c'⟩) (fun post h => goB post (b15 post h)))
      · refine Or.inr (OutF_map F (fun f s' c' hf hF => ?_) goB)
        obtain ⟨c3, k5, k6⟩ := fc_emit hF 27 0
        refine ⟨c3, k5, fun hr post hp => ⟨1 + 1, open6 post 1 (hr _ (k6 _ (fc_either6 k5 _ _ _ hp)))⟩⟩
    · refine Or.inl ⟨ct, s, e, nc, nr, E, D, A, c, m, Nat.le_refl _, hT1, hc, hm, hCD, hlen, hty, hA, ⟨h39, ⟨hx28, sg⟩, hA2, hA1, hcm⟩, ?_, fun post h => h⟩
      intro post hp
      refine ⟨1, ?_⟩
      rw [wC_X6_readEither_6, t1, eK]
      exact p_no (nI_ge (b := 300) (by omega) (by decide)) (p_no sg hp)
theorem step_4 {S : CS} {M : MS} {n : Nat} {b : Nat → Nat} {t s0 : Nat} {tx0 : Nat → Int32} (H : HX S M n b t s0) {d : Nat} (hi : P5 S M n b t s0 tx0 d) : P4 S M n b t s0 tx0 (d + 1) := by
  intro op ct s e nc nr C st T c m ho hd hT1 hc hm hlen hT hst hI
  have h300 := TN_300 H hT1
  have start : ∀ (c1 c' : CS), rv (wC_rd d 5 c) c1 → rv (fun post => ∃ N, wC_X6_readEither_6 (wC_rd d) post N (nI 0) c1) c' → rv (wC_rd (d + 1) 4 c) c' := by
    intro c1 c' h1 h2' post hp
    show wB_X6_readEither (wC_rd d) c post
    exact h1 _ (h2' post hp)
  have hI2 : hdI 2 st := by
    cases st with
    | nil => exact hI
    | cons x l => exact ⟨hI.1, by have := hI.2.1; omega, hI.2.2⟩
  rcases hi op ct s e nc nr C st T c m ho (by omega) hT1 hc hm hlen (by omega) (by omega) hI2 with ⟨ct2, s2, e2, nc2, nr2, E2, D2, A2, c2, m3, b1, b2, b3, b4, b5, b6, b7, b8, ⟨b9, b10, b11, b12, b13⟩, b14, b15⟩ | F
  · rcases ei_loop H hi ho (by omega) hT hst hI 300 0 ct2 s2 e2 nc2 nr2 E2 D2 A2 c2 m3 (by omega) (by omega) b2 b3 b4 b5 b6 b7 b8 (fun y hy => by have := b11 y hy; omega) (by omega) b13 b9 b10 with ⟨ct', s', e', nc', nr', E', D', A', c', m', z1, z2, z3, z4, z5, z6, z7, z8, z9, z10, z11⟩ | F
    · exact Or.inl ⟨ct', s', e', nc', nr', E', D', A', c', m', by omega, z2, z3, z4, z5, z6, z7, z8, z9, start c2 c' b14 z10, fun post h => b15 post (z11 post h)⟩
    · exact Or.inr (OutF_map F (fun f s' c' _ hF => ⟨c', hF, start c2 c' b14⟩) b15)
  · refine Or.inr (OutF_map F (fun f s' c' hf hF => ⟨c', hF, fun hr => start c' c' hr (fun post hp => ⟨1, fc_either6 hF _ _ _ hp⟩)⟩) (fun post h => h))
