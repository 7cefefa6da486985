/-! PURE LAYER: both readers in step: a deed's whole clause -/
theorem TP_so {S : CS} {M : MS} {n : Nat} {b : Nat → Nat} (H : TP S M n b) (z : Int32) : TP S (ms_set_sort0 M z) n b := by
  obtain ⟨q1, q2, q3, q4⟩ := H
  refine ⟨q1, q2, Eq.trans (show ms_taped (ms_set_sort0 M z) = ms_taped M by simp only [ms_set_sort0, ms_taped]) q3, ?_⟩
  intro i hi'
  have := q4 i hi'
  exact ⟨this.1, Eq.trans (show ms_tape (ms_set_sort0 M z) i = ms_tape M i by simp only [ms_set_sort0, ms_tape]) this.2.1, this.2.2⟩
/-- behind a fault a clause ends -/
theorem fc_149 {S : CS} {f s : Nat} (hf : 0 < f ∧ f < 9) {c : CS} (h : FCs S f s c) : ∃ S' c', fS S S' ∧ FCs S' f s c' ∧ rv (fun post => wC_X6_readClause_149 post c) c' := by
  refine ⟨cx_set_r_clauseCount S (cx_r_clauseCount c + 1), cx_set_r_clauseCount c (cx_r_clauseCount c + 1), ?_, ?_, ?_⟩
  · refine ⟨?_, ?_, ?_⟩ <;> simp only [cx_set_r_clauseCount]
  · obtain ⟨pl, nu, cd, cl, op, e1⟩ := h
    refine ⟨pl, nu, cd, cl, op, ?_⟩
    rw [← cA_b_clauseCount, ← e1]
  · intro post hp
    unfold wC_X6_readClause_149
    refine fc_expect hf h (by decide) _ ?_
    rw [p_all]
    exact hp
theorem fS_cl (S : CS) (g : Nat → Int32) : fS S (cx_set_r_clauses S g) := by
  refine ⟨?_, ?_, ?_⟩ <;> simp only [cx_set_r_clauses]
theorem fS_two {S S' S'' : CS} (h : fS S S') (g : fS S' S'') : fS S S'' := ⟨g.1.trans h.1, g.2.1.trans h.2.1, g.2.2.trans h.2.2⟩
theorem dcl_both {S : CS} {M : MS} {n : Nat} {b : Nat → Nat} {t : Nat} (H : TP S M n b) {tx0 : Nat → Int32} {ct s e nc nr : Nat} {C : List (Nat × Nat)} {c : CS} {m : MS} (hT : TN n ct s e nc nr) (hc : CC S ct s e nc C 0 c) (hm : KM M b t tx0 ct s e nr C m) {so cc : Nat} (hso : 3 ≤ so ∧ so ≤ 9) (hct : ct = soC so) (hl : ¬ (12 ≤ ct ∧ ct ≤ 14)) (ht : t < 4) (hx : ms_text0 M = nI (705 * t)) (h0 : tx0 (705 * t) = nI cc) (h24 : cc < 24) (hcc : cx_r_clauseCount S = nI cc) (hD : trDeed cc (fun k => tx0 (705 * t + k)) (cx_r_clauses S)) : (∃ (ct' s' e' nc' nr' : Nat) (S' : CS) (tx1 : Nat → Int32) (c' : CS) (m' : MS), e ≤ s' ∧ TN n ct' s' e' nc' nr' ∧ fS S S' ∧ TP S' (ms_set_sort0 M (nI so)) n b ∧ cx_r_clauseCount S' = nI (cc + 1) ∧ cx_r_bounds S' = cx_r_bounds S ∧ CC S' ct' s' e' nc' C 0 c' ∧ KM (ms_set_sort0 M (nI so)) b t tx1 ct' s' e' nr' C m' ∧ trDeed (cc + 1) (fun k => tx1 (705 * t + k)) (cx_r_clauses S') ∧ (∀ k, k < 705 * t → tx1 k = tx0 k) ∧ tx1 (705 * t) = nI (cc + 1) ∧ (∀ k, 0 < k → k < 1 + 4 * cc → tx1 (705 * t + k) = tx0 (705 * t + k)) ∧ tx1 (705 * t + (1 + 4 * cc)) = nI so ∧ rv (fun post => wC_X6_readClause_53 post (nI ct) c) c' ∧ rt (fun post => wM_clause_65 post (nI so) (nI cc) m) 0 m') ∨ GF S (ms_set_sort0 M (nI so)) t tx0 (fun post => wC_X6_readClause_53 post (nI ct) c) (fun post => wM_clause_65 post (nI so) (nI cc) m) := by
  have h45 := hT.2.2.2.2
  obtain ⟨Sa, eSa⟩ : ∃ z, z = cx_set_r_clauses S (upd (cx_r_clauses S) (4 * cc) (nI ct)) := ⟨_, rfl⟩
  have Ha : TP Sa (ms_set_sort0 M (nI so)) n b := by
    rw [eSa]
    exact TP_so (TP_cl H _) _
  have hca : CC Sa ct s e nc C 0 (cx_set_r_clauses c (upd (cx_r_clauses S) (4 * cc) (nI ct))) := by
    obtain ⟨nu, cd, e1, e2, e3⟩ := hc
    refine ⟨nu, cd, ?_, e2, e3⟩
    rw [e1, cA_b_clauses, eSa]
  have ccl : cx_r_clauses c = cx_r_clauses S ∧ cx_r_clauseCount c = nI cc := by
    obtain ⟨nu, cd, e1, e2, e3⟩ := hc
    rw [e1, cA_clauses, cA_clauseCount2]
    exact ⟨rfl, hcc⟩
  have hma := KM_sort0 hm (nI so)
  obtain ⟨ct1, s1, e1, nc1, nr1, a1, a2, a3, aC, aM⟩ := kb_adv (t := t) Ha (tx0 := tx0) hT
  obtain ⟨c1, k1, k2⟩ := aC _ _ _ hca
  obtain ⟨m1, k3, k4⟩ := aM _ _ hma
  have hm1 := KM_put k3 (a := 705 * t + 1 + 4 * cc) (by omega) (nI so)
  obtain ⟨q1, q2, q3⟩ := k_end k3
  have hx' : ms_text0 (ms_set_sort0 M (nI so)) = nI (705 * t) := Eq.trans (show ms_text0 (ms_set_sort0 M (nI so)) = ms_text0 M by simp only [ms_set_sort0, ms_text0]) hx
  have Wc : ∀ post : CS → Prop, wC_X6_readDeed (nI ct) c1 (fun S_9 => wC_X6_readClause_149 post S_9) → wC_X6_readClause_53 post (nI ct) c := by
    intro post h
    unfold wC_X6_readClause_53
    rw [ccl.1, ccl.2, show (nI cc * 4 : Int32) = nI (4 * cc) by rw [nI_ml 4 cc, Nat.mul_comm cc 4], p_put (by decide) _ (by omega), p_all]
    exact p_yes (nI_lt (b := 24) h24 (by decide)) (k2 _ (c_isLaw h45 _ _ (fun z => absurd z hl) (fun _ => p_yes rfl h)))
  have Vm : ∀ post : Int32 → MS → Prop, wM_body (nI so) (nI (705 * t + 1 + 4 * cc)) (ms_set_texts m1 (upd (ms_texts m1) (705 * t + 1 + 4 * cc) (nI so))) (fun r_5 S_6 => ((r_5 = 0 → tailV S_6 post) ∧ (¬ (r_5 = 0) → post r_5 S_6))) → wM_clause_65 post (nI so) (nI cc) m := by
    intro post h
    unfold wM_clause_65
    rw [p_all]
    refine k4 _ ?_
    have ea : ms_text0 m1 + 1 + 4 * nI cc = nI (705 * t + 1 + 4 * cc) := by
      rw [q1, hx', nI_1 (705 * t), nI_lm 4 cc, nI_add]
    rw [ea, nI_clamp (by omega), p_all]
    exact ⟨vp_in_nI (by omega) (by decide), h⟩
  have hccA : cx_r_clauseCount Sa = nI cc := by
    rw [eSa, cl_count]
    exact hcc
  rcases deed_both Ha a2 k1 hm1 (so := so) (cc := cc) (a := 705 * t + 1 + 4 * cc) hso hccA h24 (by omega) ht with ⟨g, tx1, ⟨r1, r2, r3, r4⟩, ct2, s2, e2, nc2, nr2, c2, m2, b1, b2, b3, b4, b5, b6, b7⟩ | ⟨f, s', g, tx1, c', m', b1, b2, b3, b4, b5, b6⟩
  · have t0 : tx1 (705 * t) = nI cc := by
      rw [r3 _ (by omega), upd_ne _ _ (by omega)]
      exact h0
    rcases tail_both (TP_cl Ha g) b2 b4 b5 (cc := cc) ht hx' t0 h24 (by rw [cl_count]; exact hccA) with ⟨ct', s', e', nc', nr', c', m', d1, d2, d3, d4, d5, d6⟩ | ⟨f, s', S', tx2, c', m', d1, d2, d3, d4, d5, d6, d7⟩
    · have gS : cx_r_clauses (cx_set_r_clauseCount (cx_set_r_clauses Sa g) (nI (cc + 1))) = g := by simp only [cx_set_r_clauseCount, cx_set_r_clauses, cx_r_clauses]
      refine Or.inl ⟨ct', s', e', nc', nr', _, upd tx1 (705 * t) (nI (cc + 1)), c', m', ?_, d2, ?_, TP_cc (TP_cl Ha g) _, ?_, ?_, d3, d4, ?_, ?_, upd_eq _ _ _, ?_, ?_, ?_, ?_⟩
      · have := a2.1
        have := b2.1
        omega
      · rw [eSa]
        refine ⟨?_, ?_, ?_⟩ <;> simp only [cx_set_r_clauseCount, cx_set_r_clauses]
      · simp only [cx_set_r_clauseCount, cx_r_clauseCount]
      · rw [eSa]
        simp only [cx_set_r_clauseCount, cx_set_r_clauses, cx_r_bounds]
      · rw [gS]
        refine trDeed_add (so := so) hD ?_ ?_ (by omega) ?_ ?_ ?_ ?_
        · intro k hk1 hk2
          show upd tx1 (705 * t) _ (705 * t + k) = tx0 (705 * t + k)
          rw [upd_ne _ _ (by omega), r3 _ (by omega), upd_ne _ _ (by omega)]
        · intro k hk
          rw [r2 _ (by omega), eSa, cl_get, upd_ne _ _ (by omega)]
        · show upd tx1 (705 * t) _ (705 * t + (1 + 4 * cc)) = nI so
          rw [upd_ne _ _ (by omega), r3 _ (by omega), show 705 * t + (1 + 4 * cc) = 705 * t + 1 + 4 * cc by omega, upd_eq]
        · rw [r2 _ (by omega), eSa, cl_get, upd_eq, hct]
        · intro j hj
          show g _ = upd tx1 (705 * t) _ (705 * t + (2 + 4 * cc + j))
          rw [upd_ne _ _ (by omega), r1 j hj]
          congr 1
          omega
        · intro z
          have := r4 z
          show 1 ≤ upd tx1 (705 * t) _ (705 * t + (2 + 4 * cc)) ∧ upd tx1 (705 * t) _ (705 * t + (2 + 4 * cc)) ≤ 60
          rw [upd_ne _ _ (by omega), show 705 * t + (2 + 4 * cc) = 705 * t + 1 + 4 * cc + 1 by omega]
          exact this
      · intro k hk
        rw [upd_ne _ _ (by omega), r3 _ (by omega), upd_ne _ _ (by omega)]
      · intro k hk1 hk2
        rw [upd_ne _ _ (by omega), r3 _ (by omega), upd_ne _ _ (by omega)]
      · rw [upd_ne _ _ (by omega), r3 _ (by omega), show 705 * t + (1 + 4 * cc) = 705 * t + 1 + 4 * cc by omega, upd_eq]
      · intro post hp
        refine Wc post ?_
        rw [hct]
        exact b6 _ (d5 post hp)
      · intro post hp
        exact Vm post (b7 _ (p_yes rfl (d6 post hp)))
    · refine Or.inr ⟨f, s', S', tx2, c', m', d1, ?_, d3, d4, ?_, ?_, ?_⟩
      · rw [eSa] at d2
        exact fS_two (fS_two (fS_cl S _) (fS_cl _ g)) d2
      · intro k hk
        rw [d5 k hk, r3 _ (by omega), upd_ne _ _ (by omega)]
      · intro post hp
        refine Wc post ?_
        rw [hct]
        exact b6 _ (d6 post hp)
      · intro post hp
        exact Vm post (b7 _ (p_yes rfl (d7 post hp)))
  · obtain ⟨S', c2, f1, f2, f3⟩ := fc_149 b1 b2
    refine Or.inr ⟨f, s', S', tx1, c2, m', b1, ?_, f2, b3, ?_, ?_, ?_⟩
    · rw [eSa] at f1
      exact fS_two (fS_two (fS_cl S _) (fS_cl _ g)) f1
    · intro k hk
      rw [b4 k hk, upd_ne _ _ (by omega)]
    · intro post hp
      refine Wc post ?_
      rw [hct]
      exact b5 _ (f3 post hp)
    · intro post hp
      exact Vm post (b6 _ (p_no (nI_ne0 b1.1 (by omega)) hp))
