/-! PURE LAYER: both readers in step: a law's whole clause -/
theorem lcl_both {S : CS} {M : MS} {n : Nat} {b : Nat → Nat} {t : Nat} (H : TP S M n b) {tx0 : Nat → Int32} {ct s e nc nr : Nat} {C : List (Nat × Nat)} {c : CS} {m : MS} (hT : TN n ct s e nc nr) (hc : CC S ct s e nc C 0 c) (hm : KM M b t tx0 ct s e nr C m) {so cc : Nat} (hso : so < 3) (hct : ct = 12 + so) (hlen : C.length ≤ s) (ht : t < 4) (hx : ms_text0 M = nI (705 * t)) (h0 : tx0 (705 * t) = nI cc) (h24 : cc < 24) (hcc : cx_r_clauseCount S = nI cc) (hD : trDeed cc (fun k => tx0 (705 * t + k)) (cx_r_clauses S)) : (∃ (ct' s' e' nc' nr' : Nat) (S' : CS) (tx1 : Nat → Int32) (E : List (Nat × Nat)) (c' : CS) (m' : MS), e ≤ s' ∧ TN n ct' s' e' nc' nr' ∧ fS S S' ∧ TP S' (ms_set_sort0 M (nI so)) n b ∧ cx_r_clauseCount S' = nI (cc + 1) ∧ cx_r_bounds S' = upd (upd (cx_r_bounds S) (2 * so) (nI C.length)) (2 * so + 1) (nI (C ++ E).length) ∧ CC S' ct' s' e' nc' (C ++ E) 0 c' ∧ KM (ms_set_sort0 M (nI so)) b t tx1 ct' s' e' nr' (C ++ E) m' ∧ (C ++ E).length ≤ s' ∧ 0 < E.length ∧ tyRun so E [] = some [true] ∧ trDeed (cc + 1) (fun k => tx1 (705 * t + k)) (cx_r_clauses S') ∧ (∀ k, k < 705 * t → tx1 k = tx0 k) ∧ tx1 (705 * t) = nI (cc + 1) ∧ (∀ k, 0 < k → k < 1 + 4 * cc → tx1 (705 * t + k) = tx0 (705 * t + k)) ∧ tx1 (705 * t + (1 + 4 * cc)) = nI so ∧ tx1 (705 * t + (2 + 4 * cc)) = nI C.length ∧ tx1 (705 * t + (3 + 4 * cc)) = nI (C ++ E).length ∧ rv (fun post => wC_X6_readClause_53 post (nI ct) c) c' ∧ rt (fun post => wM_clause_65 post (nI so) (nI cc) m) 0 m') ∨ GF S (ms_set_sort0 M (nI so)) t tx0 (fun post => wC_X6_readClause_53 post (nI ct) c) (fun post => wM_clause_65 post (nI so) (nI cc) m) := by
  have h45 := hT.2.2.2.2
  have hsC : soC so = ct := by
    have z : so = 0 ∨ so = 1 ∨ so = 2 := by omega
    rw [hct]
    rcases z with z | z | z <;> rw [z] <;> rfl
  have hsN : soN so = 0 := by
    have z : so = 0 ∨ so = 1 ∨ so = 2 := by omega
    rcases z with z | z | z <;> rw [z] <;> rfl
  obtain ⟨Sa, eSa⟩ : ∃ z, z = cx_set_r_clauses S (upd (cx_r_clauses S) (4 * cc) (nI ct)) := ⟨_, rfl⟩
  have Ha : TP Sa (ms_set_sort0 M (nI so)) n b := by
    rw [eSa]
    exact TP_so (TP_cl H _) _
  have hca : CC Sa ct s e nc C 0 (cx_set_r_clauses c (upd (cx_r_clauses S) (4 * cc) (nI ct))) := by
    obtain ⟨nu, cd, e1, e2, e3⟩ := hc
    refine ⟨nu, cd, ?_, e2, e3⟩
    rw [e1, cA_b_clauses, eSa]
  have ccl : cx_r_clauses c = cx_r_clauses S ∧ cx_r_clauseCount c = nI cc := by
    obtain ⟨nu, cd, e1, e2, e3⟩ := hc
    rw [e1, cA_clauses, cA_clauseCount2]
    exact ⟨rfl, hcc⟩
  have hma := KM_sort0 hm (nI so)
  obtain ⟨ct1, s1, e1, nc1, nr1, a1, a2, a3, aC, aM⟩ := kb_adv (t := t) Ha (tx0 := tx0) hT
  obtain ⟨c1, k1, k2⟩ := aC _ _ _ hca
  obtain ⟨m1, k3, k4⟩ := aM _ _ hma
  have hT11 := hT.1
  have hm1 := KM_put k3 (a := 705 * t + 1 + 4 * cc) (by omega) (nI so)
  obtain ⟨q1, q2, q3⟩ := k_end k3
  have hx' : ms_text0 (ms_set_sort0 M (nI so)) = nI (705 * t) := Eq.trans (show ms_text0 (ms_set_sort0 M (nI so)) = ms_text0 M by simp only [ms_set_sort0, ms_text0]) hx
  have hs' : ms_sort0 (ms_set_sort0 M (nI so)) = nI so := by simp only [ms_set_sort0, ms_sort0]
  have Wc : ∀ post : CS → Prop, lawW so c1 (fun S_14 => wC_X6_readClause_149 post S_14) → wC_X6_readClause_53 post (nI ct) c := by
    intro post h
    unfold lawW at h
    rw [← hct] at h
    unfold wC_X6_readClause_53
    rw [ccl.1, ccl.2, show (nI cc * 4 : Int32) = nI (4 * cc) by rw [nI_ml 4 cc, Nat.mul_comm cc 4], p_put (by decide) _ (by omega), p_all]
    exact p_yes (nI_lt (b := 24) h24 (by decide)) (k2 _ (c_isLaw h45 _ _ (fun _ => p_no (by decide) h) (fun z => absurd (show 12 ≤ ct ∧ ct ≤ 14 by omega) z)))
  have Vm : ∀ post : Int32 → MS → Prop, wM_lawClause (nI (705 * t + 1 + 4 * cc)) (ms_set_texts m1 (upd (ms_texts m1) (705 * t + 1 + 4 * cc) (nI so))) (fun r_5 S_6 => ((r_5 = 0 → tailV S_6 post) ∧ (¬ (r_5 = 0) → post r_5 S_6))) → wM_clause_65 post (nI so) (nI cc) m := by
    intro post h
    unfold wM_clause_65
    rw [p_all]
    refine k4 _ ?_
    have ea : ms_text0 m1 + 1 + 4 * nI cc = nI (705 * t + 1 + 4 * cc) := by
      rw [q1, hx', nI_1 (705 * t), nI_lm 4 cc, nI_add]
    rw [ea, nI_clamp (by omega), p_all]
    refine ⟨vp_in_nI (by omega) (by decide), ?_⟩
    unfold wM_body
    have ne : ∀ k, 3 ≤ k → k ≤ 9 → ¬ nI so = nI k := fun k z1 z2 z => absurd ((nI_eq (by omega) (by omega)).mp z) (by omega)
    exact ⟨fun z => absurd z (ne 3 (by decide) (by decide)), fun z => absurd z (ne 4 (by decide) (by decide)), fun z => absurd z (ne 5 (by decide) (by decide)), fun z => absurd z (ne 6 (by decide) (by decide)), fun z => absurd z (ne 7 (by decide) (by decide)), fun z => absurd z (ne 8 (by decide) (by decide)), fun z => absurd z (ne 9 (by decide) (by decide)), fun _ _ _ _ _ _ _ => h⟩
  have hccA : cx_r_clauseCount Sa = nI cc := by
    rw [eSa, cl_count]
    exact hcc
  have bdA : cx_r_bounds Sa = cx_r_bounds S := by
    rw [eSa]
    simp only [cx_set_r_clauses, cx_r_bounds]
  rcases lawc_both Ha a2 k1 hm1 (s0 := so) (a := 705 * t + 1 + 4 * cc) ht hso hs' hx' (by omega) (by omega) with ⟨ct2, s2, e2, nc2, nr2, E, c2, m2, b1, b2, b3, b4, b5, b6, b7, b8, b9⟩ | ⟨f, s', S', tx1, c', m', b1, b2, b3, b4, b5, b6, b7⟩
  · obtain ⟨tx1, ex1⟩ : ∃ z, z = upd (upd (upd tx0 (705 * t + 1 + 4 * cc) (nI so)) (705 * t + 1 + 4 * cc + 1) (nI C.length)) (705 * t + 1 + 4 * cc + 2) (nI (C ++ E).length) := ⟨_, rfl⟩
    rw [← ex1] at b4
    have t0 : tx1 (705 * t) = nI cc := by
      rw [ex1, upd_ne _ _ (by omega), upd_ne _ _ (by omega), upd_ne _ _ (by omega)]
      exact h0
    have H2 : TP (cx_set_r_bounds (cx_set_r_law Sa (nI (12 + so))) (upd (upd (cx_r_bounds Sa) (2 * so) (nI C.length)) (2 * so + 1) (nI (C ++ E).length))) (ms_set_sort0 M (nI so)) n b := by
      obtain ⟨p1, p2, p3, p4⟩ := Ha
      refine ⟨p1, Eq.trans (show cx_r_length (cx_set_r_bounds (cx_set_r_law Sa (nI (12 + so))) (upd (upd (cx_r_bounds Sa) (2 * so) (nI C.length)) (2 * so + 1) (nI (C ++ E).length))) = cx_r_length Sa by simp only [cx_set_r_bounds, cx_set_r_law, cx_r_length]) p2, p3, ?_⟩
      intro i hi
      have := p4 i hi
      exact ⟨Eq.trans (show cx_r_tape (cx_set_r_bounds (cx_set_r_law Sa (nI (12 + so))) (upd (upd (cx_r_bounds Sa) (2 * so) (nI C.length)) (2 * so + 1) (nI (C ++ E).length))) i = cx_r_tape Sa i by simp only [cx_set_r_bounds, cx_set_r_law, cx_r_tape]) this.1, this.2⟩
    have c2c : cx_r_clauseCount (cx_set_r_bounds (cx_set_r_law Sa (nI (12 + so))) (upd (upd (cx_r_bounds Sa) (2 * so) (nI C.length)) (2 * so + 1) (nI (C ++ E).length))) = nI cc := Eq.trans (show cx_r_clauseCount (cx_set_r_bounds (cx_set_r_law Sa (nI (12 + so))) (upd (upd (cx_r_bounds Sa) (2 * so) (nI C.length)) (2 * so + 1) (nI (C ++ E).length))) = cx_r_clauseCount Sa by simp only [cx_set_r_bounds, cx_set_r_law, cx_r_clauseCount]) hccA
    have f2 : fS S (cx_set_r_bounds (cx_set_r_law Sa (nI (12 + so))) (upd (upd (cx_r_bounds Sa) (2 * so) (nI C.length)) (2 * so + 1) (nI (C ++ E).length))) := by
      rw [eSa]
      refine ⟨?_, ?_, ?_⟩ <;> simp only [cx_set_r_bounds, cx_set_r_law, cx_set_r_clauses]
    rcases tail_both H2 b2 b3 b4 (cc := cc) ht hx' t0 h24 c2c with ⟨ct', s', e', nc', nr', c', m', d1, d2, d3, d4, d5, d6⟩ | ⟨f, s', S', tx2, c', m', d1, d2, d3, d4, d5, d6, d7⟩
    · have lo : ∀ k, k ≠ 705 * t → k < 705 * t + 1 + 4 * cc → upd tx1 (705 * t) (nI (cc + 1)) k = tx0 k := by
        intro k z1 z2
        rw [upd_ne _ _ z1, ex1, upd_ne _ _ (by omega), upd_ne _ _ (by omega), upd_ne _ _ (by omega)]
      have x1 : upd tx1 (705 * t) (nI (cc + 1)) (705 * t + (1 + 4 * cc)) = nI so := by
        rw [upd_ne _ _ (by omega), ex1, upd_ne _ _ (by omega), upd_ne _ _ (by omega), show 705 * t + (1 + 4 * cc) = 705 * t + 1 + 4 * cc by omega, upd_eq]
      have cS : cx_r_clauses (cx_set_r_clauseCount (cx_set_r_bounds (cx_set_r_law Sa (nI (12 + so))) (upd (upd (cx_r_bounds Sa) (2 * so) (nI C.length)) (2 * so + 1) (nI (C ++ E).length))) (nI (cc + 1))) = upd (cx_r_clauses S) (4 * cc) (nI ct) := by
        rw [eSa]
        simp only [cx_set_r_clauseCount, cx_set_r_bounds, cx_set_r_law, cx_set_r_clauses, cx_r_clauses]
      refine Or.inl ⟨ct', s', e', nc', nr', _, upd tx1 (705 * t) (nI (cc + 1)), E, c', m', ?_, d2, ?_, TP_cc H2 _, ?_, ?_, d3, d4, ?_, b6, b7, ?_, ?_, upd_eq _ _ _, ?_, x1, ?_, ?_, ?_, ?_⟩
      · have := a2.1
        have := b2.1
        omega
      · refine fS_two f2 ⟨?_, ?_, ?_⟩ <;> simp only [cx_set_r_clauseCount]
      · simp only [cx_set_r_clauseCount, cx_r_clauseCount]
      · rw [← bdA]
        simp only [cx_set_r_clauseCount, cx_set_r_bounds, cx_r_bounds]
      · have := b2.1
        omega
      · rw [cS]
        refine trDeed_add (so := so) hD ?_ ?_ (by omega) x1 ?_ ?_ (fun z => absurd z (by omega))
        · intro k hk1 hk2
          exact lo _ (by omega) (by omega)
        · intro k hk
          rw [upd_ne _ _ (by omega)]
        · rw [upd_eq, hsC]
        · intro j hj
          omega
      · intro k hk
        exact lo _ (by omega) (by omega)
      · intro k hk1 hk2
        exact lo _ (by omega) (by omega)
      · rw [upd_ne _ _ (by omega), ex1, upd_ne _ _ (by omega), show 705 * t + (2 + 4 * cc) = 705 * t + 1 + 4 * cc + 1 by omega, upd_eq]
      · rw [upd_ne _ _ (by omega), ex1, show 705 * t + (3 + 4 * cc) = 705 * t + 1 + 4 * cc + 2 by omega, upd_eq]
      · intro post hp
        exact Wc post (b8 _ (d5 post hp))
      · intro post hp
        exact Vm post (b9 _ (p_yes rfl (d6 post hp)))
    · refine Or.inr ⟨f, s', S', tx2, c', m', d1, fS_two f2 d2, d3, d4, ?_, ?_, ?_⟩
      · intro k hk
        rw [d5 k hk, ex1, upd_ne _ _ (by omega), upd_ne _ _ (by omega), upd_ne _ _ (by omega)]
      · intro post hp
        exact Wc post (b8 _ (d6 post hp))
      · intro post hp
        exact Vm post (b9 _ (p_yes rfl (d7 post hp)))
  · obtain ⟨S'', c2, f1, f2, f3⟩ := fc_149 b1 b3
    refine Or.inr ⟨f, s', S'', tx1, c2, m', b1, ?_, f2, b4, ?_, ?_, ?_⟩
    · rw [eSa] at b2
      exact fS_two (fS_two (fS_cl S _) b2) f1
    · intro k hk
      rw [b5 k hk, upd_ne _ _ (by omega)]
    · intro post hp
      exact Wc post (b6 _ (f3 post hp))
    · intro post hp
      exact Vm post (b7 _ (p_no (nI_ne0 b1.1 (by omega)) hp))
