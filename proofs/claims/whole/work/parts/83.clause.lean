/-! PURE LAYER: both readers in step: a clause's numbers -/
theorem cA_b_clauses (S : CS) (tk sa pl nu : Int32) (cd : Nat → Int32) (cl op ft : Int32) (z : Nat → Int32) : cx_set_r_clauses (cA S tk sa pl nu cd cl op ft) z = cA (cx_set_r_clauses S z) tk sa pl nu cd cl op ft := by
  simp only [cA, cx_set_r_token, cx_set_r_start, cx_set_r_place, cx_set_r_number, cx_set_r_code, cx_set_r_codeLength, cx_set_r_open, cx_set_r_fault, cx_set_r_clauses]
theorem cA_b_bounds (S : CS) (tk sa pl nu : Int32) (cd : Nat → Int32) (cl op ft : Int32) (z : Nat → Int32) : cx_set_r_bounds (cA S tk sa pl nu cd cl op ft) z = cA (cx_set_r_bounds S z) tk sa pl nu cd cl op ft := by
  simp only [cA, cx_set_r_token, cx_set_r_start, cx_set_r_place, cx_set_r_number, cx_set_r_code, cx_set_r_codeLength, cx_set_r_open, cx_set_r_fault, cx_set_r_bounds]
theorem cA_b_clauseCount (S : CS) (tk sa pl nu : Int32) (cd : Nat → Int32) (cl op ft : Int32) (z : Int32) : cx_set_r_clauseCount (cA S tk sa pl nu cd cl op ft) z = cA (cx_set_r_clauseCount S z) tk sa pl nu cd cl op ft := by
  simp only [cA, cx_set_r_token, cx_set_r_start, cx_set_r_place, cx_set_r_number, cx_set_r_code, cx_set_r_codeLength, cx_set_r_open, cx_set_r_fault, cx_set_r_clauseCount]
theorem cA_b_law (S : CS) (tk sa pl nu : Int32) (cd : Nat → Int32) (cl op ft : Int32) (z : Int32) : cx_set_r_law (cA S tk sa pl nu cd cl op ft) z = cA (cx_set_r_law S z) tk sa pl nu cd cl op ft := by
  simp only [cA, cx_set_r_token, cx_set_r_start, cx_set_r_place, cx_set_r_number, cx_set_r_code, cx_set_r_codeLength, cx_set_r_open, cx_set_r_fault, cx_set_r_law]
theorem cA_clauseCount2 (S : CS) (tk sa pl nu : Int32) (cd : Nat → Int32) (cl op ft : Int32) : cx_r_clauseCount (cA S tk sa pl nu cd cl op ft) = cx_r_clauseCount S := by
  simp only [cA, cx_set_r_token, cx_set_r_start, cx_set_r_place, cx_set_r_number, cx_set_r_code, cx_set_r_codeLength, cx_set_r_open, cx_set_r_fault, cx_r_clauseCount]
/-- the reference between clauses: whatever its pile is -/
def KM (M : MS) (b : Nat → Nat) (t : Nat) (tx0 : Nat → Int32) (ct s e nr : Nat) (C : List (Nat × Nat)) (m : MS) : Prop := ∃ (tk nu : Int32) (wd : Int64) (tx pi : Nat → Int32) (pd op iw : Int32), m = mA M (nI e) (nI s) tk nu wd tx (nI C.length) pi pd op iw ∧ TokF b s e ct tk wd ∧ (ct = 32 → nu = nI nr) ∧ CodeM t C tx ∧ (∀ k, k < 705 * t + 97 → tx k = tx0 k)
theorem CM_KM {M : MS} {b : Nat → Nat} {t : Nat} {tx0 : Nat → Int32} {ct s e nr : Nat} {C : List (Nat × Nat)} {st : List Nat} {om : Nat} {iw : Int32} {m : MS} (h : CM M b t tx0 ct s e nr C st om iw m) : KM M b t tx0 ct s e nr C m := by
  obtain ⟨tk, nu, wd, tx, pi, e1, e2, e3, e4, e5, e6⟩ := h
  exact ⟨tk, nu, wd, tx, pi, _, _, _, e1, e2, e3, e4, e6⟩
theorem KM_FM {M : MS} {b : Nat → Nat} {t : Nat} {tx0 : Nat → Int32} {ct s e nr : Nat} {C : List (Nat × Nat)} {m : MS} (h : KM M b t tx0 ct s e nr C m) : FM M t tx0 s m := by
  obtain ⟨tk, nu, wd, tx, pi, pd, op, iw, e1, e2, e3, e4, e6⟩ := h
  exact ⟨_, _, _, _, _, _, _, _, _, _, e1, e6⟩
theorem kb_adv {S : CS} {M : MS} {n : Nat} {b : Nat → Nat} {t : Nat} (H : TP S M n b) {tx0 : Nat → Int32} {ct s e nc nr : Nat} (hT : TN n ct s e nc nr) : ∃ ct' s' e' nc' nr', e ≤ s' ∧ TN n ct' s' e' nc' nr' ∧ (ct' = 31 → s' = n) ∧ (∀ C op c, CC S ct s e nc C op c → ∃ c', CC S ct' s' e' nc' C op c' ∧ rv (wC_X6_advance c) c') ∧ (∀ C m, KM M b t tx0 ct s e nr C m → ∃ m', KM M b t tx0 ct' s' e' nr' C m' ∧ rv (wM_nextToken m) m') := by
  obtain ⟨ct', s', e', nc', nr', tk, wv, ⟨a1, a2, a3, a4, a5⟩, F, a7, hC, hM⟩ := sim_adv H (p := e) hT.2.1
  refine ⟨ct', s', e', nc', nr', a1, ⟨a2, a3, a5, a7, F.2.2.2.2.2.2⟩, a4, ?_, ?_⟩
  · rintro C op c ⟨nu, cd, e1, e2, e3⟩
    refine ⟨cA S (nI ct') (nI s') (nI e') (if ct' = 32 then nI nc' else nu) cd (nI C.length) (nI op) 0, ⟨_, cd, rfl, fun z => if_pos z, e3⟩, ?_⟩
    rw [e1]
    exact hC _ _ _ _ _ _
  · rintro C m ⟨tk0, nu, wd, tx, pi, pd, op, iw, e1, e2, e3, e4, e6⟩
    refine ⟨mA M (nI e') (nI s') tk (if ct' = 32 then nI nr' else nu) (if tk = 2 then wv else wd) tx (nI C.length) pi pd op iw, ⟨tk, _, _, tx, pi, pd, op, iw, rfl, ?_, fun z => if_pos z, e4, e6⟩, ?_⟩
    · obtain ⟨g1, g2, g3, g4, g5, g6, g7⟩ := F
      refine ⟨g1, g2, g3, g4, g5, ?_, g7⟩
      intro z
      rw [if_pos z]
      exact g6 z
    · rw [e1]
      exact hM _ _ _ _ _ _ _ _ _ _
theorem KM_tok {M : MS} {b : Nat → Nat} {t : Nat} {tx0 : Nat → Int32} {ct s e nr : Nat} {C : List (Nat × Nat)} {m : MS} (h : KM M b t tx0 ct s e nr C m) : ∃ (tk : Int32) (wd : Int64), TokF b s e ct tk wd ∧ ms_token m = tk ∧ ms_word m = wd ∧ (ct = 32 → ms_number m = nI nr) := by
  obtain ⟨tk, nu, wd, tx, pi, pd, op, iw, e1, e2, e3, e4, e6⟩ := h
  refine ⟨tk, wd, e2, ?_, ?_, ?_⟩
  · rw [e1, mA_token]
  · rw [e1, mA_word]
  · rw [e1, mA_number]
    exact e3
theorem k_tn {M : MS} {b : Nat → Nat} {t : Nat} {tx0 : Nat → Int32} {ct s e nr : Nat} {C : List (Nat × Nat)} {m : MS} (h : KM M b t tx0 ct s e nr C m) : (ms_token m = 1) = (ct = 32) := by
  obtain ⟨tk, wd, F, e1, e2, _⟩ := KM_tok h
  rw [e1]
  exact tok_n F
theorem k_word {M : MS} {b : Nat → Nat} {t : Nat} {tx0 : Nat → Int32} {ct s e nr : Nat} {C : List (Nat × Nat)} {m : MS} (h : KM M b t tx0 ct s e nr C m) {i : Nat} (hi : i < 30) (h4 : i ≠ 4) (post : Int32 → MS → Prop) : wM_isWord (wK i) m post = post (if ct = i then 1 else 0) m := by
  obtain ⟨tk, wd, F, e1, e2, _⟩ := KM_tok h
  exact tok_w F m hi h4 post e1 e2
/-- a store into the text's front -/
theorem KM_put {M : MS} {b : Nat → Nat} {t : Nat} {tx0 : Nat → Int32} {ct s e nr : Nat} {C : List (Nat × Nat)} {m : MS} (h : KM M b t tx0 ct s e nr C m) {a : Nat} (ha : a < 705 * t + 97) (v : Int32) : KM M b t (upd tx0 a v) ct s e nr C (ms_set_texts m (upd (ms_texts m) a v)) := by
  obtain ⟨tk, nu, wd, tx, pi, pd, op, iw, e1, e2, e3, e4, e6⟩ := h
  refine ⟨tk, nu, wd, upd tx a v, pi, pd, op, iw, ?_, e2, e3, ?_, ?_⟩
  · rw [e1, mA_texts, mA_s_texts]
  · intro j q hj
    rw [upd_ne _ _ (by omega), upd_ne _ _ (by omega)]
    exact e4 j q hj
  · intro k hk
    by_cases z : k = a
    · rw [z, upd_eq, upd_eq]
    · rw [upd_ne _ _ z, upd_ne _ _ z]
      exact e6 k hk
/-- a number of a clause -/
theorem num_both {S : CS} {M : MS} {n : Nat} {b : Nat → Nat} {t : Nat} (H : TP S M n b) {tx0 : Nat → Int32} {ct s e nc nr : Nat} {C : List (Nat × Nat)} {c : CS} {m : MS} (hT : TN n ct s e nc nr) (hc : CC S ct s e nc C 0 c) (hm : KM M b t tx0 ct s e nr C m) {cc p lo hi a : Nat} (hcc : cx_r_clauseCount S = nI cc) (h24 : cc < 24) (hp3 : p ≤ 3) (hlo : lo ≤ hi) (hhi : hi ≤ 99) (ha : a < 705 * t + 97) (ht : t < 4) : (∃ ct' s' e' nc' nr' c' m', (ct = 32 ∧ lo ≤ nr ∧ nr ≤ hi) ∧ e ≤ s' ∧ s < e ∧ TN n ct' s' e' nc' nr' ∧ (ct' = 31 → s' = n) ∧ CC (cx_set_r_clauses S (upd (cx_r_clauses S) (4 * cc + p) (nI nr))) ct' s' e' nc' C 0 c' ∧ KM M b t (upd tx0 a (nI nr)) ct' s' e' nr' C m' ∧ rv (wC_X6_readNumber (nI p) (nI lo) (nI hi) c) c' ∧ rt (wM_figure (nI a) (nI lo) (nI hi) m) 0 m') ∨ (∃ f c', (0 < f ∧ f < 9) ∧ FCs S f s c' ∧ rv (wC_X6_readNumber (nI p) (nI lo) (nI hi) c) c' ∧ rt (wM_figure (nI a) (nI lo) (nI hi) m) (nI f) m) := by
  obtain ⟨t1, t2, t3, t4, t5, t6⟩ := CC_token hc
  obtain ⟨tk, wd, F, u1, u2, u3⟩ := KM_tok hm
  have v1 := k_tn hm
  have h45 := hT.2.2.2.2
  have e32 : (nI ct = 32) = (ct = 32) := propext (nI_eq (b := 32) (by omega) (by decide))
  by_cases c32 : ct = 32
  · obtain ⟨w1, w2, w3⟩ := hT.2.2.2.1 c32
    have hnc : nc ≤ 10000 := by
      by_cases z : nr ≤ 9999
      · rw [w2 z]
        omega
      · rw [w3 (by omega)]
        omega
    by_cases inn : lo ≤ nr ∧ nr ≤ hi
    · have enc : nc = nr := w2 (by omega)
      have hm2 := KM_put hm ha (nI nr)
      have hT' : TP (cx_set_r_clauses S (upd (cx_r_clauses S) (4 * cc + p) (nI nr))) M n b := by
        obtain ⟨q1, q2, q3, q4⟩ := H
        refine ⟨q1, ?_, q3, ?_⟩
        · rw [← q2]
          simp only [cx_set_r_clauses, cx_r_length]
        · intro i hi'
          have := q4 i hi'
          exact ⟨Eq.trans (show cx_r_tape (cx_set_r_clauses S _) i = cx_r_tape S i by simp only [cx_set_r_clauses, cx_r_tape]) this.1, this.2⟩
      have hc2 : CC (cx_set_r_clauses S (upd (cx_r_clauses S) (4 * cc + p) (nI nr))) ct s e nc C 0 (cx_set_r_clauses c (upd (cx_r_clauses S) (4 * cc + p) (nI nr))) := by
        obtain ⟨nu, cd, e1, e2, e3⟩ := hc
        refine ⟨nu, cd, ?_, e2, e3⟩
        rw [e1, cA_b_clauses]
      obtain ⟨ct', s', e', nc', nr', a1, a2, a3, aC, aM⟩ := kb_adv (t := t) hT' (tx0 := upd tx0 a (nI nr)) hT
      obtain ⟨c', k1, k2⟩ := aC _ _ _ hc2
      obtain ⟨m', k3, k4⟩ := aM _ _ hm2
      have ecl : cx_r_clauses c = cx_r_clauses S ∧ cx_r_clauseCount c = nI cc := by
        obtain ⟨nu, cd, e1, e2, e3⟩ := hc
        rw [e1, cA_clauses, cA_clauseCount2]
        exact ⟨rfl, hcc⟩
      refine Or.inl ⟨ct', s', e', nc', nr', c', m', ⟨c32, inn⟩, a1, hT.2.2.1 (by omega), a2, a3, k1, k3, ?_, ?_⟩
      · intro post hp
        unfold wC_X6_readNumber wC_X11_within
        rw [t1, e32, t6 c32, enc]
        refine p_yes c32 (p_no (fun z => absurd ((nI_ltI (by omega) (by omega)).mp z) (by omega)) (p_no (fun z => absurd ((nI_ltI (by omega) (by omega)).mp z) (by omega)) (p_no (by decide) ?_)))
        rw [p_all, ecl.1, ecl.2, t6 c32, enc, show (nI cc * 4 + nI p : Int32) = nI (4 * cc + p) by rw [nI_ml 4 cc, nI_add, Nat.mul_comm cc 4], p_put (by decide) _ (by omega)]
        exact k2 _ hp
      · intro post hp
        unfold wM_figure wM_isIn
        rw [v1, u3 c32]
        refine p_yes c32 (p_no (fun z => absurd ((nI_ltI (by omega) (by omega)).mp z) (by omega)) (p_no (fun z => absurd ((nI_ltI (by omega) (by omega)).mp z) (by omega)) (p_no (by decide) ⟨vp_in_nI (by omega) (by decide), ?_⟩)))
        rw [p_all, u3 c32, nI_clamp (by omega)]
        exact k4 _ hp
    · obtain ⟨c', f1, f2⟩ := CC_fail hc 2
      refine Or.inr ⟨2, c', by decide, f1, ?_, ?_⟩
      · intro post hp
        unfold wC_X6_readNumber wC_X11_within
        rw [t1, e32, t6 c32]
        refine p_yes c32 (p_two (fun _ => p_yes rfl (f2 _ hp)) (fun z1 => p_two (fun _ => p_yes rfl (f2 _ hp)) (fun z2 => ?_)))
        have q1 : ¬ nc < lo := fun z => z1 ((nI_ltI (by omega) (by omega)).mpr z)
        have q2 : ¬ hi < nc := fun z => z2 ((nI_ltI (by omega) (by omega)).mpr z)
        exact absurd (show lo ≤ nr ∧ nr ≤ hi by
          by_cases z : nr ≤ 9999
          · have := w2 z
            omega
          · have := w3 (by omega)
            omega) inn
      · intro post hp
        unfold wM_figure wM_isIn
        rw [v1, u3 c32]
        refine p_yes c32 (p_two (fun _ => p_yes rfl hp) (fun z1 => p_two (fun _ => p_yes rfl hp) (fun z2 => ?_)))
        have q1 : ¬ nr < lo := fun z => z1 ((nI_ltI (by omega) (by omega)).mpr z)
        have q2 : ¬ hi < nr := fun z => z2 ((nI_ltI (by omega) (by omega)).mpr z)
        exact absurd (show lo ≤ nr ∧ nr ≤ hi by omega) inn
  · obtain ⟨c', f1, f2⟩ := CC_fail hc 1
    refine Or.inr ⟨1, c', by decide, f1, ?_, ?_⟩
    · intro post hp
      unfold wC_X6_readNumber
      rw [t1, e32]
      exact p_no c32 (f2 _ hp)
    · intro post hp
      unfold wM_figure
      rw [v1]
      exact p_no c32 hp
