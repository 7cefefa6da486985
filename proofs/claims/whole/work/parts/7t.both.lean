/-! PURE LAYER: both readers in step -/
theorem tyRun_app (k : Nat) : ∀ (E F : List (Nat × Nat)) (T U : List Bool), tyRun k E T = some U → tyRun k (E ++ F) T = tyRun k F U := by
  intro E
  induction E with
  | nil =>
    intro F T U h
    have e : T = U := Option.some.inj h
    rw [e]
    rfl
  | cons q E ih =>
    intro F T U h
    show (tyStep k q T).bind (tyRun k (E ++ F)) = tyRun k F U
    have h' : (tyStep k q T).bind (tyRun k E) = some U := h
    cases hs : tyStep k q T with
    | none =>
      rw [hs] at h'
      cases h'
    | some V =>
      rw [hs] at h'
      exact ih F V U h'
theorem tyRun_1 (k : Nat) (q : Nat × Nat) (T U : List Bool) (h : tyStep k q T = some U) : tyRun k [q] T = some U := by
  show (tyStep k q T).bind (tyRun k []) = some U
  rw [h]
  rfl
theorem tyRun_two (k : Nat) (E F : List (Nat × Nat)) (T U V : List Bool) (h : tyRun k E T = some U) (g : tyRun k F U = some V) : tyRun k (E ++ F) T = some V := (tyRun_app k E F T U h).trans g
def FM (M : MS) (t : Nat) (tx0 : Nat → Int32) (s : Nat) (m : MS) : Prop := ∃ (aa tk nu : Int32) (wd : Int64) (tx : Nat → Int32) (wr : Int32) (pi : Nat → Int32) (pd op iw : Int32), m = mA M aa (nI s) tk nu wd tx wr pi pd op iw ∧ (∀ k, k < 705 * t + 97 → tx k = tx0 k)
theorem CM_FM {M : MS} {b : Nat → Nat} {t : Nat} {tx0 : Nat → Int32} {ct s e nr : Nat} {C : List (Nat × Nat)} {st : List Nat} {om : Nat} {iw : Int32} {m : MS} (h : CM M b t tx0 ct s e nr C st om iw m) : FM M t tx0 s m := by
  obtain ⟨tk, nu, wd, tx, pi, e1, e2, e3, e4, e5, e6⟩ := h
  exact ⟨_, _, _, _, _, _, _, _, _, _, e1, e6⟩
/-- a fault, on both sides -/
def OutF (S : CS) (M : MS) (t : Nat) (tx0 : Nat → Int32) (W : (CS → Prop) → Prop) (m : MS) : Prop := ∃ (f s' : Nat) (c' : CS) (m' : MS), (0 < f ∧ f < 9) ∧ FCs S f s' c' ∧ FM M t tx0 s' m' ∧ rv W c' ∧ ∀ post : Int32 → MS → Prop, post (nI f) m' → Lp post m
theorem OutF_map {S : CS} {M : MS} {t : Nat} {tx0 : Nat → Int32} {W W' : (CS → Prop) → Prop} {m m0 : MS} (h : OutF S M t tx0 W m) (hc : ∀ (f s' : Nat) (c' : CS), (0 < f ∧ f < 9) → FCs S f s' c' → ∃ c'', FCs S f s' c'' ∧ (rv W c' → rv W' c'')) (hm : ∀ post : Int32 → MS → Prop, Lp post m → Lp post m0) : OutF S M t tx0 W' m0 := by
  obtain ⟨f, s', c', m', a1, a2, a3, a4, a5⟩ := h
  obtain ⟨c'', b1, b2⟩ := hc f s' c' a1 a2
  exact ⟨f, s', c'', m', a1, b1, a3, b2 a4, fun post hp => hm post (a5 post hp)⟩
/-- one, read by both -/
def Ok1 (S : CS) (M : MS) (n : Nat) (b : Nat → Nat) (t s0 : Nat) (tx0 : Nat → Int32) (e : Nat) (op : Nat) (C : List (Nat × Nat)) (st : List Nat) (om : Nat) (T : List Bool) (W : (CS → Prop) → Prop) (m : MS) : Prop := ∃ (ct' s' e' nc' nr' : Nat) (E : List (Nat × Nat)) (iw : Int32) (c' : CS) (m' : MS), e ≤ s' ∧ TN n ct' s' e' nc' nr' ∧ CC S ct' s' e' nc' (C ++ E) op c' ∧ CM M b t tx0 ct' s' e' nr' (C ++ E) st om iw m' ∧ (C ++ E).length + st.length ≤ s' ∧ tyRun s0 E T = some (true :: T) ∧ rv W c' ∧ ∀ post : Int32 → MS → Prop, E1 post m' → Lp post m
/-- more than one: some of the reference's operations still wait -/
def OkX (S : CS) (M : MS) (n : Nat) (b : Nat → Nat) (t s0 : Nat) (tx0 : Nat → Int32) (e : Nat) (op : Nat) (C : List (Nat × Nat)) (st : List Nat) (T : List Bool) (ty : Bool) (Q : Nat → List Nat → Prop) (W : (CS → Prop) → Prop) (m : MS) : Prop := ∃ (ct' s' e' nc' nr' : Nat) (E D : List (Nat × Nat)) (A : List Nat) (c' : CS) (m' : MS), e ≤ s' ∧ TN n ct' s' e' nc' nr' ∧ CC S ct' s' e' nc' (C ++ E) op c' ∧ CM M b t tx0 ct' s' e' nr' D (A ++ st) (op + cntO A) 1 m' ∧ C ++ E = D ++ opsL A ∧ (C ++ E).length + st.length ≤ s' ∧ tyRun s0 E T = some (ty :: T) ∧ (∀ y, y ∈ A → y < 40) ∧ Q ct' A ∧ rv W c' ∧ ∀ post : Int32 → MS → Prop, Lp post m' → Lp post m
def hd12 : List Nat → Prop
  | [] => True
  | x :: _ => x ≠ 41 ∧ x ≠ 42
def P2 (S : CS) (M : MS) (n : Nat) (b : Nat → Nat) (t s0 : Nat) (tx0 : Nat → Int32) (d : Nat) : Prop := ∀ (op ct s e nc nr : Nat) (C : List (Nat × Nat)) (st : List Nat) (T : List Bool) (c : CS) (m : MS), op ≤ 8 → 7 * (8 - op) + 1 ≤ d → TN n ct s e nc nr → CC S ct s e nc C op c → CM M b t tx0 ct s e nr C st op 0 m → C.length + st.length ≤ s → T.length ≤ 5 * op + 2 → st.length ≤ 6 * op + 2 → (ct = 29 → askA st = false) → Ok1 S M n b t s0 tx0 e op C st op T (wC_rd d 2 c) m ∨ OutF S M t tx0 (wC_rd d 2 c) m
def P1 (S : CS) (M : MS) (n : Nat) (b : Nat → Nat) (t s0 : Nat) (tx0 : Nat → Int32) (d : Nat) : Prop := ∀ (op ct s e nc nr : Nat) (C : List (Nat × Nat)) (st : List Nat) (T : List Bool) (c : CS) (m : MS), op ≤ 8 → 7 * (8 - op) + 2 ≤ d → TN n ct s e nc nr → CC S ct s e nc C op c → CM M b t tx0 ct s e nr C st op 0 m → C.length + st.length ≤ s → T.length ≤ 5 * op + 1 → st.length ≤ 6 * op + 1 → lowH 6 st → hd12 st → (ct = 29 → askA st = false) → OkX S M n b t s0 tx0 e op C st T true (fun ct' A => (ct' ≠ 41 ∧ ct' ≠ 42) ∧ (∀ y, y ∈ A → 6 ≤ rkN y) ∧ A.length ≤ 1 ∧ cntO A = 0) (wC_rd d 1 c) m ∨ OutF S M t tx0 (wC_rd d 1 c) m
def P0 (S : CS) (M : MS) (n : Nat) (b : Nat → Nat) (t s0 : Nat) (tx0 : Nat → Int32) (d : Nat) : Prop := ∀ (op ct s e nc nr : Nat) (C : List (Nat × Nat)) (st : List Nat) (T : List Bool) (c : CS) (m : MS), op ≤ 8 → 7 * (8 - op) + 3 ≤ d → TN n ct s e nc nr → CC S ct s e nc C op c → CM M b t tx0 ct s e nr C st op 0 m → C.length + st.length ≤ s → T.length ≤ 5 * op → st.length ≤ 6 * op → lowH 5 st → hd12 st → (ct = 29 → askA st = false) → OkX S M n b t s0 tx0 e op C st T true (fun ct' A => (ct' ≠ 39 ∧ ct' ≠ 40 ∧ ct' ≠ 41 ∧ ct' ≠ 42) ∧ (∀ y, y ∈ A → 5 ≤ rkN y) ∧ A.length ≤ 2 ∧ cntO A = 0) (wC_rd d 0 c) m ∨ OutF S M t tx0 (wC_rd d 0 c) m
theorem low_go {st : List Nat} (h : lowH 6 st) (g : hd12 st) : goH st := by
  cases st with
  | nil => trivial
  | cons x l =>
    have h' : rkN x < 6 := h
    exact ⟨by omega, g.1, g.2⟩
theorem cnt_1 {x : Nat} (h : rkN x ≠ 7 ∧ x ≠ 20) : cntO [x] = 0 := by
  show (if rkN x = 7 ∨ x = 20 then 1 else 0) + 0 = 0
  rw [if_neg (fun z => by rcases z with z | z; exact h.1 z; exact h.2 z)]
theorem TN_300 {S : CS} {M : MS} {n : Nat} {b : Nat → Nat} {t s0 : Nat} (H : HX S M n b t s0) {ct s e nc nr : Nat} (h : TN n ct s e nc nr) : e ≤ 300 ∧ s ≤ 300 := by
  have a := H.1.1
  have b := h.1
  have c := h.2.1
  omega
/-! products -/
theorem pr_loop {S : CS} {M : MS} {n : Nat} {b : Nat → Nat} {t s0 : Nat} {tx0 : Nat → Int32} (H : HX S M n b t s0) {d op : Nat} (h2 : P2 S M n b t s0 tx0 d) (ho : op ≤ 8) (hd : 7 * (8 - op) + 1 ≤ d) {C0 : List (Nat × Nat)} {st : List Nat} {T : List Bool} (hT : T.length ≤ 5 * op + 1) (hst : st.length ≤ 6 * op + 1) (hlow : lowH 6 st) (h12 : hd12 st) : ∀ (k i ct s e nc nr : Nat) (E D : List (Nat × Nat)) (A : List Nat) (c : CS) (m : MS), i + k = 300 → i ≤ s → TN n ct s e nc nr → CC S ct s e nc (C0 ++ E) op c → CM M b t tx0 ct s e nr D (A ++ st) op 1 m → C0 ++ E = D ++ opsL A → (C0 ++ E).length + st.length ≤ s → tyRun s0 E T = some (true :: T) → (∀ y, y ∈ A → y < 40 ∧ 6 ≤ rkN y) → A.length ≤ 1 → cntO A = 0 → OkX S M n b t s0 tx0 s op C0 st T true (fun ct' A => (ct' ≠ 41 ∧ ct' ≠ 42) ∧ (∀ y, y ∈ A → 6 ≤ rkN y) ∧ A.length ≤ 1 ∧ cntO A = 0) (fun post => ∃ N, wC_X6_readProduct_6 (wC_rd d) post N (nI i) c) m ∨ OutF S M t tx0 (fun post => ∃ N, wC_X6_readProduct_6 (wC_rd d) post N (nI i) c) m := by
  intro k
  induction k with
  | zero =>
    intro i ct s e nc nr E D A c m ei his hT1 hc hm hCD hlen hty hA hA1 hcn
    obtain ⟨t1, t2, t3, t4, t5, t6⟩ := CC_token hc
    have h300 := TN_300 H hT1
    have e31 : ct = 31 := by
      by_cases z : ct = 31
      · exact z
      · have := hT1.2.2.1 z
        omega
    refine Or.inl ⟨ct, s, e, nc, nr, E, D, A, c, m, Nat.le_refl _, hT1, hc, by rw [hcn]; exact hm, hCD, hlen, hty, fun y hy => (hA y hy).1, ⟨by omega, fun y hy => (hA y hy).2, hA1, hcn⟩, ?_, fun post h => h⟩
    intro post hp
    refine ⟨1, ?_⟩
    rw [wC_X6_readProduct_6]
    exact p_yes (nI_le (a := 300) (by omega) (by omega)) hp
  | succ k ih =>
    intro i ct s e nc nr E D A c m ei his hT1 hc hm hCD hlen hty hA hA1 hcn
    obtain ⟨t1, t2, t3, t4, t5, t6⟩ := CC_token hc
    have h300 := TN_300 H hT1
    have e41 : (nI ct = 41) = (ct = 41) := propext (nI_eq (b := 41) (by have := hT1.2.2.2.2; omega) (by decide))
    have e42 : (nI ct = 42) = (ct = 42) := propext (nI_eq (b := 42) (by have := hT1.2.2.2.2; omega) (by decide))
    have hlA : (A ++ st).length < 160 := by
      rw [List.length_append]
      omega
    by_cases sg : ct = 41 ∨ ct = 42
    · -- a sign: on with the next one
      obtain ⟨x, hx1, hx2, hx3, hx4⟩ : ∃ x, (btI ct (A ++ st) = nI x) ∧ rkN x = 6 ∧ nI ct = nI (opC x) ∧ (x = 8 ∨ x = 9) := by
        rcases sg with z | z
        · refine ⟨8, ?_, by decide, by rw [z]; rfl, Or.inl rfl⟩
          unfold btI
          rw [if_neg (by omega), if_neg (by omega), if_pos z]
          rfl
        · refine ⟨9, ?_, by decide, by rw [z]; rfl, Or.inr rfl⟩
          unfold btI
          rw [if_neg (by omega), if_neg (by omega), if_neg (by omega), if_pos z]
          rfl
      have hx50 : x < 40 := by
        rcases hx4 with z | z <;> omega
      have lenD : D.length + A.length = (C0 ++ E).length := by
        rw [hCD, List.length_append, show (opsL A).length = A.length from List.length_map _]
      obtain ⟨m1, g1, g2⟩ := bh_op H hm (x := x) (r := 6) (by omega) hx1 (by rw [hx2]; rfl) hlow hlA (fun y hy => (hA y hy).2) (by omega) (by omega) (by omega)
      rw [hcn, Nat.sub_zero, ← hCD] at g1
      obtain ⟨ct1, s1, e1, nc1, nr1, a1, a2, aC, aM⟩ := both_adv H (tx0 := tx0) hT1
      have a21 := a2.1
      obtain ⟨c1, k1, k2⟩ := aC _ _ _ hc
      obtain ⟨m2, k3, k4⟩ := aM _ _ _ _ _ g1
      have sm := hT1.2.2.1 (by omega)
      have goB : ∀ post : Int32 → MS → Prop, Lp post m2 → Lp post m := fun post h => Lp_behind hm post (g2 m2 k4) h
      have ask0 : ct1 = 29 → askA (x :: st) = false := by
        intro _
        show (decide (opV (x :: st) = 43) && (decide (40 ≤ x) || (decide (1 ≤ rkN x) && decide (rkN x ≤ 3)))) = false
        rw [decide_eq_false (show ¬ 40 ≤ x by omega), decide_eq_false (show ¬ rkN x ≤ 3 by omega), Bool.and_false, Bool.false_or, Bool.and_false]
      have open6 : ∀ (post : CS → Prop) (N : Nat), wC_rd d 2 c1 (fun S_4 => wC_X6_emit (nI ct) 0 S_4 (fun S_6 => wC_X6_readProduct_6 (wC_rd d) post N (nI (i + 1)) S_6)) → wC_X6_readProduct_6 (wC_rd d) post (N + 1) (nI i) c := by
        intro post N h
        rw [wC_X6_readProduct_6, t1, e41, e42]
        have q : wC_X6_readProduct_31 (wC_rd d) post (wC_X6_readProduct_6 (wC_rd d) post N) (nI i) c := by
          unfold wC_X6_readProduct_31
          rw [t1, nI_1]
          exact k2 _ h
        exact p_no (nI_ge (b := 300) (by omega) (by decide)) (p_two (fun _ => q) (fun z => p_yes (by omega) q))
      rcases h2 op ct1 s1 e1 nc1 nr1 (C0 ++ E) (x :: st) (true :: T) c1 m2 ho hd a2 k1 k3 (by show (C0 ++ E).length + (st.length + 1) ≤ s1; omega) (by show T.length + 1 ≤ _; omega) (by show st.length + 1 ≤ _; omega) ask0 with ⟨ct2, s2, e2, nc2, nr2, E2, iw2, c2, m3, b1, b2, b3, b4, b5, b6, b7, b8⟩ | F
      · -- the next one is read
        have h300' := TN_300 H b2
        have b5' : (C0 ++ E ++ E2).length + (st.length + 1) ≤ s2 := b5
        obtain ⟨c3, k5, k6⟩ := CC_emit b3 (by omega) x 0
        obtain ⟨m4, k7, k8⟩ := E1_go H b4 (by show st.length + 1 ≤ 160; omega) (show rkN x < 7 ∧ x ≠ 41 ∧ x ≠ 42 by omega) (by omega) (by omega)
        have eC : C0 ++ E ++ E2 ++ [(x, 0)] = C0 ++ (E ++ E2 ++ [(x, 0)]) := by
          simp only [List.append_assoc]
        rw [eC] at k5
        have ty2 : tyRun s0 (E ++ E2 ++ [(x, 0)]) T = some (true :: T) := by
          refine tyRun_two s0 (E ++ E2) [(x, 0)] T _ _ (tyRun_two s0 E E2 T _ _ hty b6) (tyRun_1 s0 _ _ _ ?_)
          rcases hx4 with z | z <;> rw [z] <;> rfl
        have ih' := ih (i + 1) ct2 s2 e2 nc2 nr2 (E ++ E2 ++ [(x, 0)]) (C0 ++ E ++ E2) [x] c3 m4 (by omega) (by omega) b2 k5 k7 (by rw [← eC]; rfl) (by rw [← eC, List.length_append]; show (C0 ++ E ++ E2).length + 1 + st.length ≤ s2; omega) ty2 (fun y hy => by
          have : y = x := List.mem_singleton.mp hy
          rw [this]
          omega) (Nat.le_refl 1) (cnt_1 (by omega))
        have step : ∀ c', rv (fun post => ∃ N, wC_X6_readProduct_6 (wC_rd d) post N (nI (i + 1)) c3) c' → rv (fun post => ∃ N, wC_X6_readProduct_6 (wC_rd d) post N (nI i) c) c' := by
          intro c' hr post hp
          obtain ⟨N, hN⟩ := hr post hp
          refine ⟨N + 1, open6 post N (b7 _ ?_)⟩
          rw [hx3]
          exact k6 _ hN
        rcases ih' with ⟨ct', s', e', nc', nr', E', D', A', c', m', z1, z2, z3, z4, z5, z6, z7, z8, z9, z10, z11⟩ | F
        · exact Or.inl ⟨ct', s', e', nc', nr', E', D', A', c', m', by omega, z2, z3, z4, z5, z6, z7, z8, z9, step c' z10, fun post h => goB post (b8 post (k8 post (z11 post h)))⟩
        · exact Or.inr (OutF_map F (fun f s' c' _ hF => ⟨c', hF, step c'⟩) (fun post h => goB post (b8 post (k8 post h))))
      · -- a fault in the next one
        refine Or.inr (OutF_map F (fun f s' c' hf hF => ?_) goB)
        obtain ⟨c3, k5, k6⟩ := fc_emit hF (nI ct) 0
        refine ⟨c3, k5, fun hr post hp => ⟨1 + 1, open6 post 1 (hr _ (k6 _ (fc_product6 k5 _ _ _ hp)))⟩⟩
    · refine Or.inl ⟨ct, s, e, nc, nr, E, D, A, c, m, Nat.le_refl _, hT1, hc, by rw [hcn]; exact hm, hCD, hlen, hty, fun y hy => (hA y hy).1, ⟨by omega, fun y hy => (hA y hy).2, hA1, hcn⟩, ?_, fun post h => h⟩
      intro post hp
      refine ⟨1, ?_⟩
      rw [wC_X6_readProduct_6, t1, e41, e42]
      exact p_no (nI_ge (b := 300) (by omega) (by decide)) (p_no (fun z => sg (Or.inl z)) (p_no (fun z => sg (Or.inr z)) hp))
theorem step_1 {S : CS} {M : MS} {n : Nat} {b : Nat → Nat} {t s0 : Nat} {tx0 : Nat → Int32} (H : HX S M n b t s0) {d : Nat} (h2 : P2 S M n b t s0 tx0 d) : P1 S M n b t s0 tx0 (d + 1) := by
  intro op ct s e nc nr C st T c m ho hd hT1 hc hm hlen hT hst hlow h12 hask
  have h300 := TN_300 H hT1
  have start : ∀ (c1 c' : CS), rv (wC_rd d 2 c) c1 → rv (fun post => ∃ N, wC_X6_readProduct_6 (wC_rd d) post N (nI 0) c1) c' → rv (wC_rd (d + 1) 1 c) c' := by
    intro c1 c' h1 h2' post hp
    show wB_X6_readProduct (wC_rd d) c post
    exact h1 _ (h2' post hp)
  rcases h2 op ct s e nc nr C st T c m ho (by omega) hT1 hc hm hlen (by omega) (by omega) hask with ⟨ct2, s2, e2, nc2, nr2, E2, iw2, c2, m3, b1, b2, b3, b4, b5, b6, b7, b8⟩ | F
  · have h300' := TN_300 H b2
    obtain ⟨m4, k7, k8⟩ := E1_go H b4 (by omega) (low_go hlow h12) (by omega) (by omega)
    rcases pr_loop H h2 ho (by omega) hT hst hlow h12 300 0 ct2 s2 e2 nc2 nr2 E2 (C ++ E2) [] c2 m4 (by omega) (by omega) b2 b3 k7 (by show C ++ E2 = C ++ E2 ++ []; rw [List.append_nil]) b5 b6 (fun y hy => by cases hy) (by decide) rfl with ⟨ct', s', e', nc', nr', E', D', A', c', m', z1, z2, z3, z4, z5, z6, z7, z8, z9, z10, z11⟩ | F
    · exact Or.inl ⟨ct', s', e', nc', nr', E', D', A', c', m', by omega, z2, z3, z4, z5, z6, z7, z8, z9, start c2 c' b7 z10, fun post h => b8 post (k8 post (z11 post h))⟩
    · exact Or.inr (OutF_map F (fun f s' c' _ hF => ⟨c', hF, start c2 c' b7⟩) (fun post h => b8 post (k8 post h)))
  · refine Or.inr (OutF_map F (fun f s' c' hf hF => ⟨c', hF, fun hr => start c' c' hr (fun post hp => ⟨1, fc_product6 hF _ _ _ hp⟩)⟩) (fun post h => h))
