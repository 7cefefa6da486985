/-! PURE LAYER: both readers in step: the loop over clauses -/
theorem tok_0 {b : Nat → Nat} {s e ct : Nat} {tk : Int32} {wd : Int64} (F : TokF b s e ct tk wd) : (tk = 0) = (ct = 31) := by
  have t2 : ∀ c, c < 46 → 33 ≤ c → ¬ nI (sgN c) = 0 := by decide +kernel
  obtain ⟨f1, f2, f3, f4, f5, f6, f7⟩ := F
  apply propext
  by_cases c1 : ct < 30
  · rw [f1 c1]
    exact ⟨fun z => absurd z (by decide), fun z => by omega⟩
  · by_cases c2 : ct = 31
    · exact ⟨fun _ => c2, fun _ => f2 c2⟩
    · by_cases c3 : ct = 32
      · rw [f3 c3]
        exact ⟨fun z => absurd z (by decide), fun z => by omega⟩
      · by_cases c4 : ct = 30
        · rcases f5 c4 with q | q | q
          · rw [q]
            exact ⟨fun z => absurd z (by decide), fun z => by omega⟩
          · rw [q]
            exact ⟨fun z => absurd z (by decide), fun z => by omega⟩
          · rw [q]
            exact ⟨fun z => absurd z (by decide), fun z => by omega⟩
        · rw [f4 (by omega) f7]
          exact ⟨fun z => absurd z (t2 ct (by omega) (by omega)), fun z => by omega⟩
theorem fS_trans {S T U : CS} (h : fS S T) (g : fS T U) : fS S U := ⟨g.1.trans h.1, g.2.1.trans h.2.1, g.2.2.trans h.2.2⟩
theorem fMM_trans {S T U : MS} (h : fMM S T) (g : fMM T U) : fMM S U := ⟨g.1.trans h.1, g.2.1.trans h.2.1, g.2.2.1.trans h.2.2.1, g.2.2.2.1.trans h.2.2.2.1, g.2.2.2.2.1.trans h.2.2.2.2.1, g.2.2.2.2.2.1.trans h.2.2.2.2.2.1, g.2.2.2.2.2.2.trans h.2.2.2.2.2.2⟩
/-- a text read to its end -/
def TOk (S : CS) (M : MS) (b : Nat → Nat) (t : Nat) (tx0 : Nat → Int32) (V : (Option Nat → CS → Prop) → Prop) (U : (Int32 → MS → Prop) → Prop) : Prop := ∃ (S' : CS) (M' : MS) (tx1 : Nat → Int32) (C : List (Nat × Nat)) (cc o ct s e nc nr : Nat) (c' : CS) (m' : MS), fS S S' ∧ fMM M M' ∧ CC S' ct s e nc C 0 c' ∧ KM M' b t tx1 ct s e nr C m' ∧ TI S' M' tx1 t C cc o ∧ C.length ≤ 300 ∧ (∀ k, k < 705 * t → tx1 k = tx0 k) ∧ (∀ post, wC_X6_readTape_79 post c' → V post) ∧ (∀ post, post 0 m' → U post)
/-- a text with a fault -/
def TF (S : CS) (M : MS) (t : Nat) (tx0 : Nat → Int32) (V : (Option Nat → CS → Prop) → Prop) (U : (Int32 → MS → Prop) → Prop) : Prop := ∃ (f s' : Nat) (S' : CS) (M' : MS) (tx1 : Nat → Int32) (c' : CS) (m' : MS), (0 < f ∧ f < 9) ∧ fS S S' ∧ fMM M M' ∧ FCs S' f s' c' ∧ FM M' t tx1 s' m' ∧ (∀ k, k < 705 * t → tx1 k = tx0 k) ∧ (∀ post, wC_X6_readTape_79 post c' → V post) ∧ (∀ post, post (nI f) m' → U post)
theorem loop_both {n : Nat} {b : Nat → Nat} {t : Nat} (ht : t < 4) : ∀ (j : Nat) {S : CS} {M : MS} (_ : TP S M n b) {tx0 : Nat → Int32} {ct s e nc nr : Nat} {C : List (Nat × Nat)} {c : CS} {m : MS} (_ : TN n ct s e nc nr) (_ : CC S ct s e nc C 0 c) (_ : KM M b t tx0 ct s e nr C m) {cc o : Nat} (_ : TI S M tx0 t C cc o) (_ : C.length ≤ s) (_ : j + cc = 24), TOk S M b t tx0 (fun post => wC_X6_readTape_47 post (j + 2) (nI cc) c) (fun post => wM_readText_43 post (j + 2) m) ∨ TF S M t tx0 (fun post => wC_X6_readTape_47 post (j + 2) (nI cc) c) (fun post => wM_readText_43 post (j + 2) m) := by
  intro j
  induction j with
  | zero =>
    intro S M H tx0 ct s e nc nr C c m hT hc hm cc o hI hlen hj
    obtain ⟨t1, t2, t3, t4, t5, t6⟩ := CC_token hc
    obtain ⟨tk, wd, F, u1, u2, u3⟩ := KM_tok hm
    have h45 := hT.2.2.2.2
    have n24 : ¬ (24 : Int32) < nI cc := fun z => by
      have := (nI_ltI (a := 24) (by decide) (by omega)).mp z
      omega
    have e31 : (nI ct = 31) = (ct = 31) := propext (nI_eq (b := 31) (by omega) (by decide))
    have e0 : (ms_token m = 0) = (ct = 31) := by
      rw [u1]
      exact tok_0 F
    by_cases z : ct = 31
    · refine Or.inl ⟨S, M, tx0, C, cc, o, ct, s, e, nc, nr, c, m, ⟨rfl, rfl, rfl⟩, ⟨rfl, rfl, rfl, rfl, rfl, rfl, rfl⟩, hc, hm, hI, ?_, fun _ _ => rfl, ?_, ?_⟩
      · have := hT.1
        have := hT.2.1
        have := H.1
        omega
      · intro post hp
        show wC_X6_readTape_47 post (0 + 1 + 1) (nI cc) c
        rw [wC_X6_readTape_47, t4, t1, e31]
        exact p_no n24 (p_yes rfl (p_yes z hp))
      · intro post hp
        show wM_readText_43 post (0 + 1 + 1) m
        rw [wM_readText_43, e0]
        exact p_yes z hp
    · rcases clause_both H hT hc hm ht hI hlen with ⟨ct', s', e', nc', nr', S', M', tx1, E, o', c', m', b1, b2, b3, b4, b5, b6, b7⟩ | ⟨M', g0, f, s', S', tx1, c', m', g1, g2, g3, g4, g5, g6, g7⟩
      · have := b6.2.1
        omega
      · refine Or.inr ⟨f, s', S', M', tx1, c', m', g1, g2, g0, g3, g4, g5, ?_, ?_⟩
        · intro post hp
          show wC_X6_readTape_47 post (0 + 1 + 1) (nI cc) c
          rw [wC_X6_readTape_47, t4, t1, e31]
          refine p_no n24 (p_yes rfl (p_no z (g6 _ ?_)))
          rw [wC_X6_readTape_47, nI_1 cc]
          exact p_yes (nI_lt (a := 24) (by omega) (by omega)) hp
        · intro post hp
          show wM_readText_43 post (0 + 1 + 1) m
          rw [wM_readText_43, e0]
          refine p_no z (g7 _ (p_no ?_ hp))
          exact fun y => absurd ((nI_eq (b := 0) (by omega) (by decide)).mp y) (by omega)
  | succ j ih =>
    intro S M H tx0 ct s e nc nr C c m hT hc hm cc o hI hlen hj
    obtain ⟨t1, t2, t3, t4, t5, t6⟩ := CC_token hc
    obtain ⟨tk, wd, F, u1, u2, u3⟩ := KM_tok hm
    have h45 := hT.2.2.2.2
    have n24 : ¬ (24 : Int32) < nI cc := fun z => by
      have := (nI_ltI (a := 24) (by decide) (by omega)).mp z
      omega
    have n25 : ¬ (24 : Int32) < nI (cc + 1) := fun z => by
      have := (nI_ltI (a := 24) (by decide) (by omega)).mp z
      omega
    have e31 : (nI ct = 31) = (ct = 31) := propext (nI_eq (b := 31) (by omega) (by decide))
    have e0 : (ms_token m = 0) = (ct = 31) := by
      rw [u1]
      exact tok_0 F
    by_cases z : ct = 31
    · refine Or.inl ⟨S, M, tx0, C, cc, o, ct, s, e, nc, nr, c, m, ⟨rfl, rfl, rfl⟩, ⟨rfl, rfl, rfl, rfl, rfl, rfl, rfl⟩, hc, hm, hI, ?_, fun _ _ => rfl, ?_, ?_⟩
      · have := hT.1
        have := hT.2.1
        have := H.1
        omega
      · intro post hp
        show wC_X6_readTape_47 post (j + 2 + 1) (nI cc) c
        rw [wC_X6_readTape_47, t4, t1, e31]
        exact p_no n24 (p_yes rfl (p_yes z hp))
      · intro post hp
        show wM_readText_43 post (j + 2 + 1) m
        rw [wM_readText_43, e0]
        exact p_yes z hp
    · have V1 : ∀ post, wC_X6_readClause c (fun S_5 => wC_X6_readTape_47 post (j + 2) (nI (cc + 1)) S_5) → wC_X6_readTape_47 post (j + 1 + 2) (nI cc) c := by
        intro post h
        show wC_X6_readTape_47 post (j + 2 + 1) (nI cc) c
        rw [wC_X6_readTape_47, t4, t1, e31, nI_1 cc]
        exact p_no n24 (p_yes rfl (p_no z h))
      have U1 : ∀ post, wM_clause m (fun r_2 S_3 => ((r_2 = 0 → wM_readText_43 post (j + 2) S_3) ∧ (¬ (r_2 = 0) → post r_2 S_3))) → wM_readText_43 post (j + 1 + 2) m := by
        intro post h
        show wM_readText_43 post (j + 2 + 1) m
        rw [wM_readText_43, e0]
        exact p_no z h
      rcases clause_both H hT hc hm ht hI hlen with ⟨ct', s', e', nc', nr', S', M', tx1, E, o', c', m', b1, b2, b3, b4, b5, b6, b7, b8, b9, b10, b11, b12⟩ | ⟨M', g0, f, s', S', tx1, c', m', g1, g2, g3, g4, g5, g6, g7⟩
      · rcases ih b5 b2 b7 b8 b6 b9 (by omega) with ⟨S2, M2, tx2, C2, cc2, o2, ct2, s2, e2, nc2, nr2, c2, m2, d1, d2, d3, d4, d5, d6, d7, d8, d9⟩ | ⟨f, s2, S2, M2, tx2, c2, m2, d1, d2, d3, d4, d5, d6, d7, d8⟩
        · exact Or.inl ⟨S2, M2, tx2, C2, cc2, o2, ct2, s2, e2, nc2, nr2, c2, m2, fS_trans b3 d1, fMM_trans b4 d2, d3, d4, d5, d6, fun k hk => (d7 k hk).trans (b10 k hk), fun post hp => V1 post (b11 _ (d8 post hp)), fun post hp => U1 post (b12 _ (p_yes rfl (d9 post hp)))⟩
        · exact Or.inr ⟨f, s2, S2, M2, tx2, c2, m2, d1, fS_trans b3 d2, fMM_trans b4 d3, d4, d5, fun k hk => (d6 k hk).trans (b10 k hk), fun post hp => V1 post (b11 _ (d7 post hp)), fun post hp => U1 post (b12 _ (p_yes rfl (d8 post hp)))⟩
      · refine Or.inr ⟨f, s', S', M', tx1, c', m', g1, g2, g0, g3, g4, g5, ?_, ?_⟩
        · intro post hp
          refine V1 post (g6 _ ?_)
          show wC_X6_readTape_47 post (j + 1 + 1) (nI (cc + 1)) c'
          rw [wC_X6_readTape_47]
          refine p_no n25 (p_no ?_ hp)
          obtain ⟨pl, nu, cd, cl, op, e1⟩ := g3
          rw [e1, cA_fault]
          exact fun y => absurd ((nI_eq (b := 0) (by omega) (by decide)).mp y) (by omega)
        · intro post hp
          refine U1 post (g7 _ (p_no ?_ hp))
          exact fun y => absurd ((nI_eq (b := 0) (by omega) (by decide)).mp y) (by omega)
