/-! PURE LAYER: both readers in step: sums -/
theorem cntO_app : ∀ (A B : List Nat), cntO (A ++ B) = cntO A + cntO B := by
  intro A B
  induction A with
  | nil => exact (Nat.zero_add _).symm
  | cons x A ih =>
    show (if rkN x = 7 ∨ x = 20 then 1 else 0) + cntO (A ++ B) = (if rkN x = 7 ∨ x = 20 then 1 else 0) + cntO A + cntO B
    rw [ih, Nat.add_assoc]
theorem opsL_app (A : List Nat) (x : Nat) : opsL (A ++ [x]) = opsL A ++ [(x, 0)] := by
  show (A ++ [x]).map _ = _
  rw [List.map_append]
  rfl
theorem app_1 (A : List Nat) (x : Nat) (st : List Nat) : A ++ x :: st = (A ++ [x]) ++ st := by
  rw [List.append_assoc]
  rfl
theorem su_loop {S : CS} {M : MS} {n : Nat} {b : Nat → Nat} {t s0 : Nat} {tx0 : Nat → Int32} (H : HX S M n b t s0) {d op : Nat} (h1 : P1 S M n b t s0 tx0 d) (ho : op ≤ 8) (hd : 7 * (8 - op) + 2 ≤ d) {C0 : List (Nat × Nat)} {st : List Nat} {T : List Bool} (hT : T.length ≤ 5 * op) (hst : st.length ≤ 6 * op) (hlow : lowH 5 st) (h12 : hd12 st) : ∀ (k i ct s e nc nr : Nat) (E D : List (Nat × Nat)) (A : List Nat) (c : CS) (m : MS), i + k = 300 → i ≤ s → TN n ct s e nc nr → CC S ct s e nc (C0 ++ E) op c → CM M b t tx0 ct s e nr D (A ++ st) op 1 m → C0 ++ E = D ++ opsL A → (C0 ++ E).length + st.length ≤ s → tyRun s0 E T = some (true :: T) → (∀ y, y ∈ A → y < 40 ∧ 5 ≤ rkN y) → A.length ≤ 2 → cntO A = 0 → (ct ≠ 41 ∧ ct ≠ 42) → OkX S M n b t s0 tx0 s op C0 st T true (fun ct' A => (ct' ≠ 39 ∧ ct' ≠ 40 ∧ ct' ≠ 41 ∧ ct' ≠ 42) ∧ (∀ y, y ∈ A → 5 ≤ rkN y) ∧ A.length ≤ 2 ∧ cntO A = 0) (fun post => ∃ N, wC_X6_readSum_6 (wC_rd d) post N (nI i) c) m ∨ OutF S M t tx0 (fun post => ∃ N, wC_X6_readSum_6 (wC_rd d) post N (nI i) c) m := by
  intro k
  induction k with
  | zero =>
    intro i ct s e nc nr E D A c m ei his hT1 hc hm hCD hlen hty hA hA1 hcn h41
    obtain ⟨t1, t2, t3, t4, t5, t6⟩ := CC_token hc
    have h300 := TN_300 H hT1
    have e31 : ct = 31 := by
      by_cases z : ct = 31
      · exact z
      · have := hT1.2.2.1 z
        omega
    refine Or.inl ⟨ct, s, e, nc, nr, E, D, A, c, m, Nat.le_refl _, hT1, hc, by rw [hcn]; exact hm, hCD, hlen, hty, fun y hy => (hA y hy).1, ⟨by omega, fun y hy => (hA y hy).2, hA1, hcn⟩, ?_, fun post h => h⟩
    intro post hp
    refine ⟨1, ?_⟩
    rw [wC_X6_readSum_6]
    exact p_yes (nI_le (a := 300) (by omega) (by omega)) hp
  | succ k ih =>
    intro i ct s e nc nr E D A c m ei his hT1 hc hm hCD hlen hty hA hA1 hcn h41
    obtain ⟨t1, t2, t3, t4, t5, t6⟩ := CC_token hc
    have h300 := TN_300 H hT1
    have e39 : (nI ct = 39) = (ct = 39) := propext (nI_eq (b := 39) (by have := hT1.2.2.2.2; omega) (by decide))
    have e40 : (nI ct = 40) = (ct = 40) := propext (nI_eq (b := 40) (by have := hT1.2.2.2.2; omega) (by decide))
    have hlA : (A ++ st).length < 160 := by
      rw [List.length_append]
      omega
    by_cases sg : ct = 39 ∨ ct = 40
    · obtain ⟨x, hx1, hx2, hx3, hx4⟩ : ∃ x, (btI ct (A ++ st) = nI x) ∧ rkN x = 5 ∧ nI ct = nI (opC x) ∧ (x = 6 ∨ x = 7) := by
        rcases sg with z | z
        · refine ⟨6, ?_, by decide, by rw [z]; rfl, Or.inl rfl⟩
          unfold btI
          rw [if_pos z]
          rfl
        · refine ⟨7, ?_, by decide, by rw [z]; rfl, Or.inr rfl⟩
          unfold btI
          rw [if_neg (by omega), if_pos z]
          rfl
      have hx50 : x < 40 := by
        rcases hx4 with z | z <;> omega
      have lenD : D.length + A.length = (C0 ++ E).length := by
        rw [hCD, List.length_append, show (opsL A).length = A.length from List.length_map _]
      obtain ⟨m1, g1, g2⟩ := bh_op H hm (x := x) (r := 5) (by omega) hx1 (by rw [hx2]; rfl) hlow hlA (fun y hy => (hA y hy).2) (by omega) (by omega) (by omega)
      rw [hcn, Nat.sub_zero, ← hCD] at g1
      obtain ⟨ct1, s1, e1, nc1, nr1, a1, a2, aC, aM⟩ := both_adv H (tx0 := tx0) hT1
      have a21 := a2.1
      obtain ⟨c1, k1, k2⟩ := aC _ _ _ hc
      obtain ⟨m2, k3, k4⟩ := aM _ _ _ _ _ g1
      have sm := hT1.2.2.1 (by omega)
      have goB : ∀ post : Int32 → MS → Prop, Lp post m2 → Lp post m := fun post h => Lp_behind hm post (g2 m2 k4) h
      have ask0 : ct1 = 29 → askA (x :: st) = false := by
        intro _
        show (decide (opV (x :: st) = 43) && (decide (40 ≤ x) || (decide (1 ≤ rkN x) && decide (rkN x ≤ 3)))) = false
        rw [decide_eq_false (show ¬ 40 ≤ x by omega), decide_eq_false (show ¬ rkN x ≤ 3 by omega), Bool.and_false, Bool.false_or, Bool.and_false]
      have open6 : ∀ (post : CS → Prop) (N : Nat), wC_rd d 1 c1 (fun S_4 => wC_X6_emit (nI ct) 0 S_4 (fun S_6 => wC_X6_readSum_6 (wC_rd d) post N (nI (i + 1)) S_6)) → wC_X6_readSum_6 (wC_rd d) post (N + 1) (nI i) c := by
        intro post N h
        rw [wC_X6_readSum_6, t1, e39, e40]
        have q : wC_X6_readSum_31 (wC_rd d) post (wC_X6_readSum_6 (wC_rd d) post N) (nI i) c := by
          unfold wC_X6_readSum_31
          rw [t1, nI_1]
          exact k2 _ h
        exact p_no (nI_ge (b := 300) (by omega) (by decide)) (p_two (fun _ => q) (fun z => p_yes (by omega) q))
      rcases h1 op ct1 s1 e1 nc1 nr1 (C0 ++ E) (x :: st) (true :: T) c1 m2 ho hd a2 k1 k3 (by show (C0 ++ E).length + (st.length + 1) ≤ s1; omega) (by show T.length + 1 ≤ _; omega) (by show st.length + 1 ≤ _; omega) (show rkN x < 6 by omega) (show x ≠ 41 ∧ x ≠ 42 by omega) ask0 with ⟨ct2, s2, e2, nc2, nr2, E2, D2, A2, c2, m3, b1, b2, b3, b4, b5, b6, b7, b8, ⟨b9, b10, b11, b12⟩, b13, b14⟩ | F
      · have h300' := TN_300 H b2
        have b6' : (C0 ++ E ++ E2).length + (st.length + 1) ≤ s2 := b6
        obtain ⟨c3, k5, k6⟩ := CC_emit b3 (by omega) x 0
        have eC : C0 ++ E ++ E2 ++ [(x, 0)] = C0 ++ (E ++ E2 ++ [(x, 0)]) := by
          simp only [List.append_assoc]
        rw [eC] at k5
        rw [b12, Nat.add_zero, app_1] at b4
        have ty2 : tyRun s0 (E ++ E2 ++ [(x, 0)]) T = some (true :: T) := by
          refine tyRun_two s0 (E ++ E2) [(x, 0)] T _ _ (tyRun_two s0 E E2 T _ _ hty b7) (tyRun_1 s0 _ _ _ ?_)
          rcases hx4 with z | z <;> rw [z] <;> rfl
        have hmem : ∀ y, y ∈ A2 ++ [x] → y < 40 ∧ 5 ≤ rkN y := by
          intro y hy
          rcases List.mem_append.mp hy with z | z
          · have := b10 y z
            exact ⟨b8 y z, by omega⟩
          · have : y = x := List.mem_singleton.mp z
            rw [this]
            omega
        have cn2 : cntO (A2 ++ [x]) = 0 := by
          rw [cntO_app, b12, cnt_1 (by omega)]
        have len2 : (A2 ++ [x]).length ≤ 2 := by
          rw [List.length_append]
          show A2.length + 1 ≤ 2
          omega
        have ih' := ih (i + 1) ct2 s2 e2 nc2 nr2 (E ++ E2 ++ [(x, 0)]) D2 (A2 ++ [x]) c3 m3 (by omega) (by omega) b2 k5 b4 (by rw [← eC, b5, opsL_app, List.append_assoc]) (by rw [← eC, List.length_append]; show (C0 ++ E ++ E2).length + 1 + st.length ≤ s2; omega) ty2 hmem len2 cn2 b9
        have step : ∀ c', rv (fun post => ∃ N, wC_X6_readSum_6 (wC_rd d) post N (nI (i + 1)) c3) c' → rv (fun post => ∃ N, wC_X6_readSum_6 (wC_rd d) post N (nI i) c) c' := by
          intro c' hr post hp
          obtain ⟨N, hN⟩ := hr post hp
          refine ⟨N + 1, open6 post N (b13 _ ?_)⟩
          rw [hx3]
          exact k6 _ hN
        rcases ih' with ⟨ct', s', e', nc', nr', E', D', A', c', m', z1, z2, z3, z4, z5, z6, z7, z8, z9, z10, z11⟩ | F
        · exact Or.inl ⟨ct', s', e', nc', nr', E', D', A', c', m', by omega, z2, z3, z4, z5, z6, z7, z8, z9, step c' z10, fun post h => goB post (b14 post (z11 post h))⟩
        · exact Or.inr (OutF_map F (fun f s' c' _ hF => ⟨c', hF, step c'⟩) (fun post h => goB post (b14 post h)))
      · refine Or.inr (OutF_map F (fun f s' c' hf hF => ?_) goB)
        obtain ⟨c3, k5, k6⟩ := fc_emit hF (nI ct) 0
        refine ⟨c3, k5, fun hr post hp => ⟨1 + 1, open6 post 1 (hr _ (k6 _ (fc_sum6 k5 _ _ _ hp)))⟩⟩
    · refine Or.inl ⟨ct, s, e, nc, nr, E, D, A, c, m, Nat.le_refl _, hT1, hc, by rw [hcn]; exact hm, hCD, hlen, hty, fun y hy => (hA y hy).1, ⟨by omega, fun y hy => (hA y hy).2, hA1, hcn⟩, ?_, fun post h => h⟩
      intro post hp
      refine ⟨1, ?_⟩
      rw [wC_X6_readSum_6, t1, e39, e40]
      exact p_no (nI_ge (b := 300) (by omega) (by decide)) (p_no (fun z => sg (Or.inl z)) (p_no (fun z => sg (Or.inr z)) hp))
theorem low_up {r q : Nat} (hq : r ≤ q) {st : List Nat} (h : lowH r st) : lowH q st := by
  cases st with
  | nil => trivial
  | cons x l =>
    have h' : rkN x < r := h
    show rkN x < q
    omega
theorem step_0 {S : CS} {M : MS} {n : Nat} {b : Nat → Nat} {t s0 : Nat} {tx0 : Nat → Int32} (H : HX S M n b t s0) {d : Nat} (h1 : P1 S M n b t s0 tx0 d) : P0 S M n b t s0 tx0 (d + 1) := by
  intro op ct s e nc nr C st T c m ho hd hT1 hc hm hlen hT hst hlow h12 hask
  have h300 := TN_300 H hT1
  have start : ∀ (c1 c' : CS), rv (wC_rd d 1 c) c1 → rv (fun post => ∃ N, wC_X6_readSum_6 (wC_rd d) post N (nI 0) c1) c' → rv (wC_rd (d + 1) 0 c) c' := by
    intro c1 c' h1 h2' post hp
    show wB_X6_readSum (wC_rd d) c post
    exact h1 _ (h2' post hp)
  rcases h1 op ct s e nc nr C st T c m ho (by omega) hT1 hc hm hlen (by omega) (by omega) (low_up (by omega) hlow) h12 hask with ⟨ct2, s2, e2, nc2, nr2, E2, D2, A2, c2, m3, b1, b2, b3, b4, b5, b6, b7, b8, ⟨b9, b10, b11, b12⟩, b13, b14⟩ | F
  · rw [b12, Nat.add_zero] at b4
    rcases su_loop H h1 ho (by omega) hT hst hlow h12 300 0 ct2 s2 e2 nc2 nr2 E2 D2 A2 c2 m3 (by omega) (by omega) b2 b3 b4 b5 b6 b7 (fun y hy => ⟨b8 y hy, by have := b10 y hy; omega⟩) (by omega) b12 b9 with ⟨ct', s', e', nc', nr', E', D', A', c', m', z1, z2, z3, z4, z5, z6, z7, z8, z9, z10, z11⟩ | F
    · exact Or.inl ⟨ct', s', e', nc', nr', E', D', A', c', m', by omega, z2, z3, z4, z5, z6, z7, z8, z9, start c2 c' b13 z10, fun post h => b14 post (z11 post h)⟩
    · exact Or.inr (OutF_map F (fun f s' c' _ hF => ⟨c', hF, start c2 c' b13⟩) b14)
  · refine Or.inr (OutF_map F (fun f s' c' hf hF => ⟨c', hF, fun hr => start c' c' hr (fun post hp => ⟨1, fc_sum6 hF _ _ _ hp⟩)⟩) (fun post h => h))
