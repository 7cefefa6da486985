/-! PURE LAYER: both readers in step: how a clause ends -/
theorem k_semi {M : MS} {b : Nat → Nat} {t : Nat} {tx0 : Nat → Int32} {ct s e nr : Nat} {C : List (Nat × Nat)} {m : MS} (h : KM M b t tx0 ct s e nr C m) : (ms_token m = 59) = (ct = 45) := by
  obtain ⟨tk, wd, F, e1, e2, _⟩ := KM_tok h
  rw [e1]
  exact tok_sg F (c := 45) (by decide) (by decide)
theorem k_end {M : MS} {b : Nat → Nat} {t : Nat} {tx0 : Nat → Int32} {ct s e nr : Nat} {C : List (Nat × Nat)} {m : MS} (h : KM M b t tx0 ct s e nr C m) : ms_text0 m = ms_text0 M ∧ ms_once m = ms_once M ∧ (∀ k, k < 705 * t + 97 → ms_texts m k = tx0 k) := by
  obtain ⟨tk, nu, wd, tx, pi, pd, op, iw, e1, e2, e3, e4, e6⟩ := h
  refine ⟨?_, ?_, ?_⟩
  · rw [e1]
    simp only [mA, ms_set_at, ms_set_place, ms_set_token, ms_set_number, ms_set_word, ms_set_texts, ms_set_written, ms_set_pile, ms_set_piled, ms_set_opens, ms_set_isWhole, ms_text0]
  · rw [e1]
    simp only [mA, ms_set_at, ms_set_place, ms_set_token, ms_set_number, ms_set_word, ms_set_texts, ms_set_written, ms_set_pile, ms_set_piled, ms_set_opens, ms_set_isWhole, ms_once]
  · rw [e1, mA_texts]
    exact e6
def tailV (m : MS) (post : Int32 → MS → Prop) : Prop := (vp_in (ms_text0 m) 2820 ∧ (vp_in (ms_text0 m) 2820 ∧ ∀ S_8 : MS, S_8 = (ms_set_texts m (upd (ms_texts m) ((ms_text0 m).toNatClampNeg) (((ms_texts m) (ms_text0 m).toNatClampNeg) + 1))) → (((ms_token S_8) = 59 → wM_nextToken S_8 (fun S_11 => post 0 S_11)) ∧ (¬ ((ms_token S_8) = 59) → post 1 S_8))))
theorem TP_cc {S : CS} {M : MS} {n : Nat} {b : Nat → Nat} (H : TP S M n b) (z : Int32) : TP (cx_set_r_clauseCount S z) M n b := by
  obtain ⟨q1, q2, q3, q4⟩ := H
  refine ⟨q1, Eq.trans (show cx_r_length (cx_set_r_clauseCount S z) = cx_r_length S by simp only [cx_set_r_clauseCount, cx_r_length]) q2, q3, ?_⟩
  intro i hi'
  have := q4 i hi'
  exact ⟨Eq.trans (show cx_r_tape (cx_set_r_clauseCount S z) i = cx_r_tape S i by simp only [cx_set_r_clauseCount, cx_r_tape]) this.1, this.2⟩
theorem tail_both {S : CS} {M : MS} {n : Nat} {b : Nat → Nat} {t : Nat} (H : TP S M n b) {tx0 : Nat → Int32} {ct s e nc nr : Nat} {C : List (Nat × Nat)} {c : CS} {m : MS} (hT : TN n ct s e nc nr) (hc : CC S ct s e nc C 0 c) (hm : KM M b t tx0 ct s e nr C m) {cc : Nat} (ht : t < 4) (hx : ms_text0 M = nI (705 * t)) (h0 : tx0 (705 * t) = nI cc) (h24 : cc < 24) (hcc : cx_r_clauseCount S = nI cc) : (∃ ct' s' e' nc' nr' c' m', e ≤ s' ∧ TN n ct' s' e' nc' nr' ∧ CC (cx_set_r_clauseCount S (nI (cc + 1))) ct' s' e' nc' C 0 c' ∧ KM M b t (upd tx0 (705 * t) (nI (cc + 1))) ct' s' e' nr' C m' ∧ rv (fun post => wC_X6_readClause_149 post c) c' ∧ rt (tailV m) 0 m') ∨ GF S M t tx0 (fun post => wC_X6_readClause_149 post c) (tailV m) := by
  obtain ⟨k1, k2, k3⟩ := k_end hm
  have h45 := hT.2.2.2.2
  have hm2 := KM_put hm (a := 705 * t) (by omega) (nI (cc + 1))
  have V : ∀ post : Int32 → MS → Prop, ((ct = 45 → wM_nextToken (ms_set_texts m (upd (ms_texts m) (705 * t) (nI (cc + 1)))) (fun S_11 => post 0 S_11)) ∧ (¬ ct = 45 → post 1 (ms_set_texts m (upd (ms_texts m) (705 * t) (nI (cc + 1)))))) → tailV m post := by
    intro post h
    unfold tailV
    rw [k1, hx, nI_clamp (by omega), k3 _ (by omega), h0, nI_1 cc]
    refine ⟨vp_in_nI (by omega) (by decide), vp_in_nI (by omega) (by decide), ?_⟩
    rw [p_all, k_semi hm2]
    exact h
  by_cases q : ct = 45
  · obtain ⟨ct', s', e', nc', nr', a1, a2, a3, aC, _⟩ := kb_adv (t := t) H (tx0 := tx0) hT
    obtain ⟨ct1, s1, e1, nc1, nr1, d1, d2, d3, dC, dM⟩ := kb_adv (t := t) H (tx0 := upd tx0 (705 * t) (nI (cc + 1))) hT
    obtain ⟨c1, l1, l2⟩ := dC _ _ _ hc
    obtain ⟨m1, l3, l4⟩ := dM _ _ hm2
    refine Or.inl ⟨ct1, s1, e1, nc1, nr1, cx_set_r_clauseCount c1 (nI (cc + 1)), m1, d1, d2, ?_, l3, ?_, fun post hp => V post (p_yes q (l4 _ hp))⟩
    · obtain ⟨nu, cd, e1, e2, e3⟩ := l1
      refine ⟨nu, cd, ?_, e2, e3⟩
      rw [e1, cA_b_clauseCount]
    · intro post hp
      unfold wC_X6_readClause_149
      refine ex_yes hc (k := 45) rfl q l2 _ ?_
      have ec : cx_r_clauseCount c1 = nI cc := by
        obtain ⟨nu, cd, e1, e2, e3⟩ := l1
        rw [e1, cA_clauseCount2]
        exact hcc
      rw [p_all, ec, nI_1 cc]
      exact hp
  · obtain ⟨c', f1, f2⟩ := CC_fail hc 1
    refine Or.inr ⟨1, s, cx_set_r_clauseCount S (cx_r_clauseCount c' + 1), upd tx0 (705 * t) (nI (cc + 1)), cx_set_r_clauseCount c' (cx_r_clauseCount c' + 1), _, by decide, ?_, ?_, KM_FM hm2, ?_, ?_, fun post hp => V post (p_no q hp)⟩
    · refine ⟨?_, ?_, ?_⟩ <;> simp only [cx_set_r_clauseCount]
    · obtain ⟨pl, nu, cd, cl, op, e1⟩ := f1
      refine ⟨pl, nu, cd, cl, op, ?_⟩
      rw [← cA_b_clauseCount, ← e1]
    · intro k hk
      rw [upd_ne _ _ (by omega)]
    · intro post hp
      unfold wC_X6_readClause_149
      refine ex_no hc (k := 45) rfl h45 (by decide) q f2 _ ?_
      rw [p_all]
      exact hp
