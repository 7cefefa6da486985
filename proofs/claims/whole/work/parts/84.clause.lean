/-! PURE LAYER: both readers in step: worded numbers, pairs -/
theorem fc_number {S : CS} {f s : Nat} (hf : 0 < f ∧ f < 9) {c : CS} (h : FCs S f s c) (p lo hi : Int32) : rv (wC_X6_readNumber p lo hi c) c := by
  intro post hp
  unfold wC_X6_readNumber
  rw [(fc_tok h).1]
  exact p_no (by decide) (fc_fail hf h 1 post hp)
theorem TP_cl {S : CS} {M : MS} {n : Nat} {b : Nat → Nat} (H : TP S M n b) (g : Nat → Int32) : TP (cx_set_r_clauses S g) M n b := by
  obtain ⟨q1, q2, q3, q4⟩ := H
  refine ⟨q1, Eq.trans (show cx_r_length (cx_set_r_clauses S g) = cx_r_length S by simp only [cx_set_r_clauses, cx_r_length]) q2, q3, ?_⟩
  intro i hi'
  have := q4 i hi'
  exact ⟨Eq.trans (show cx_r_tape (cx_set_r_clauses S g) i = cx_r_tape S i by simp only [cx_set_r_clauses, cx_r_tape]) this.1, this.2⟩
/-- the class's clause is let through or not, as the reference's: what comes of a reading step -/
def NOk (S : CS) (M : MS) (n : Nat) (b : Nat → Nat) (t : Nat) (tx0 : Nat → Int32) (e : Nat) (C : List (Nat × Nat)) (g : Nat → Int32) (tx1 : Nat → Int32) (W : (CS → Prop) → Prop) (V : (Int32 → MS → Prop) → Prop) : Prop := ∃ ct' s' e' nc' nr' c' m', e ≤ s' ∧ TN n ct' s' e' nc' nr' ∧ (ct' = 31 → s' = n) ∧ CC (cx_set_r_clauses S g) ct' s' e' nc' C 0 c' ∧ KM M b t tx1 ct' s' e' nr' C m' ∧ rv W c' ∧ rt V 0 m'
def NF (S : CS) (M : MS) (t : Nat) (W : (CS → Prop) → Prop) (V : (Int32 → MS → Prop) → Prop) (tx0 : Nat → Int32) : Prop := ∃ (f s' : Nat) (g tx1 : Nat → Int32) (c' : CS) (m' : MS), (0 < f ∧ f < 9) ∧ FCs (cx_set_r_clauses S g) f s' c' ∧ FM M t tx1 s' m' ∧ (∀ k, k < 705 * t → tx1 k = tx0 k) ∧ rv W c' ∧ rt V (nI f) m'
theorem cl_self (S : CS) : cx_set_r_clauses S (cx_r_clauses S) = S := by
  simp only [cx_set_r_clauses, cx_r_clauses]
theorem cl_two (S : CS) (g h : Nat → Int32) : cx_set_r_clauses (cx_set_r_clauses S g) h = cx_set_r_clauses S h := by
  simp only [cx_set_r_clauses]
theorem cl_get (S : CS) (g : Nat → Int32) : cx_r_clauses (cx_set_r_clauses S g) = g := by
  simp only [cx_set_r_clauses, cx_r_clauses]
theorem cl_count (S : CS) (g : Nat → Int32) : cx_r_clauseCount (cx_set_r_clauses S g) = cx_r_clauseCount S := by
  simp only [cx_set_r_clauses, cx_r_clauseCount]
/-- a word, and a number behind it -/
theorem wnum_both {S : CS} {M : MS} {n : Nat} {b : Nat → Nat} {t : Nat} (H : TP S M n b) {tx0 : Nat → Int32} {ct s e nc nr : Nat} {C : List (Nat × Nat)} {c : CS} {m : MS} (hT : TN n ct s e nc nr) (hc : CC S ct s e nc C 0 c) (hm : KM M b t tx0 ct s e nr C m) {cc k p hi a : Nat} (hk : k < 30) (hk4 : k ≠ 4) (hcc : cx_r_clauseCount S = nI cc) (h24 : cc < 24) (hp3 : p ≤ 3) (hhi : hi ≤ 99) (ha : a < 705 * t + 97) (ht : t < 4) : (∃ v, v ≤ hi ∧ NOk S M n b t tx0 e C (upd (cx_r_clauses S) (4 * cc + p) (nI v)) (upd tx0 a (nI v)) (fun post => wC_X6_expect (nI k) c (fun S_4 => wC_X6_readNumber (nI p) 0 (nI hi) S_4 post)) (wM_worded (wK k) (nI a) (nI hi) m)) ∨ NF S M t (fun post => wC_X6_expect (nI k) c (fun S_4 => wC_X6_readNumber (nI p) 0 (nI hi) S_4 post)) (wM_worded (wK k) (nI a) (nI hi) m) tx0 := by
  have h45 := hT.2.2.2.2
  by_cases q : ct = k
  · obtain ⟨ct1, s1, e1, nc1, nr1, a1, a2, a3, aC, aM⟩ := kb_adv (t := t) H (tx0 := tx0) hT
    obtain ⟨c1, k1, k2⟩ := aC _ _ _ hc
    obtain ⟨m1, k3, k4⟩ := aM _ _ hm
    have wd : ∀ post : Int32 → MS → Prop, wM_figure (nI a) (nI 0) (nI hi) m1 post → wM_worded (wK k) (nI a) (nI hi) m post := by
      intro post h
      unfold wM_worded
      rw [k_word hm hk hk4, if_pos q]
      exact p_no (by decide) (k4 _ h)
    rcases num_both H a2 k1 k3 hcc h24 hp3 (Nat.zero_le hi) hhi ha ht with ⟨ct', s', e', nc', nr', c', m', b1, b2, b3, b4, b5, b6, b7, b8, b9⟩ | ⟨f, c', b1, b2, b3, b4⟩
    · exact Or.inl ⟨nr1, b1.2.2, ct', s', e', nc', nr', c', m', by have := a2.1; omega, b4, b5, b6, b7, fun post hp => ex_yes hc rfl q k2 _ (b8 post hp), fun post hp => wd post (b9 post hp)⟩
    · exact Or.inr ⟨f, s1, cx_r_clauses S, tx0, c', m1, b1, by rw [cl_self]; exact b2, KM_FM k3, fun _ _ => rfl, fun post hp => ex_yes hc rfl q k2 _ (b3 post hp), fun post hp => wd post (b4 post hp)⟩
  · obtain ⟨c', f1, f2⟩ := CC_fail hc 1
    refine Or.inr ⟨1, s, cx_r_clauses S, tx0, c', m, by decide, by rw [cl_self]; exact f1, KM_FM hm, fun _ _ => rfl, fun post hp => ex_no hc rfl h45 (by omega) q f2 _ (fc_number (by decide) f1 _ _ _ _ hp), ?_⟩
    intro post hp
    unfold wM_worded
    rw [k_word hm hk hk4, if_neg q]
    exact p_yes rfl hp
/-- a number, a word, a number -/
theorem pair_both {S : CS} {M : MS} {n : Nat} {b : Nat → Nat} {t : Nat} (H : TP S M n b) {tx0 : Nat → Int32} {ct s e nc nr : Nat} {C : List (Nat × Nat)} {c : CS} {m : MS} (hT : TN n ct s e nc nr) (hc : CC S ct s e nc C 0 c) (hm : KM M b t tx0 ct s e nr C m) {cc k lo hi h2 a : Nat} (hk : k < 30) (hk4 : k ≠ 4) (hcc : cx_r_clauseCount S = nI cc) (h24 : cc < 24) (hlo : lo ≤ hi) (hhi : hi ≤ 99) (hh2 : h2 ≤ 99) (ha : 705 * t ≤ a ∧ a + 2 < 705 * t + 97) (ht : t < 4) : (∃ v1 v2, (lo ≤ v1 ∧ v1 ≤ hi ∧ v2 ≤ h2) ∧ NOk S M n b t tx0 e C (upd (upd (cx_r_clauses S) (4 * cc + 1) (nI v1)) (4 * cc + 2) (nI v2)) (upd (upd tx0 (a + 1) (nI v1)) (a + 2) (nI v2)) (fun post => wC_X6_readNumber (nI 1) (nI lo) (nI hi) c (fun S_2 => wC_X6_expect (nI k) S_2 (fun S_4 => wC_X6_readNumber (nI 2) 0 (nI h2) S_4 post))) (wM_pair (nI a) (nI lo) (nI hi) (wK k) (nI h2) m)) ∨ NF S M t (fun post => wC_X6_readNumber (nI 1) (nI lo) (nI hi) c (fun S_2 => wC_X6_expect (nI k) S_2 (fun S_4 => wC_X6_readNumber (nI 2) 0 (nI h2) S_4 post))) (wM_pair (nI a) (nI lo) (nI hi) (wK k) (nI h2) m) tx0 := by
  have fig : ∀ (r : Int32) (m1 : MS), rt (wM_figure (nI (a + 1)) (nI lo) (nI hi) m) r m1 → ∀ post : Int32 → MS → Prop, ((r = 0 → wM_worded (wK k) (nI (a + 2)) (nI h2) m1 (fun r_4 S_5 => post r_4 S_5)) ∧ (¬ r = 0 → post r m1)) → wM_pair (nI a) (nI lo) (nI hi) (wK k) (nI h2) m post := by
    intro r m1 hr post h
    unfold wM_pair
    rw [nI_1 a, show (nI a + 2 : Int32) = nI (a + 2) from (nI_add a 2)]
    exact hr _ h
  rcases num_both H hT hc hm (p := 1) (a := a + 1) hcc h24 (by decide) hlo hhi (by omega) ht with ⟨ct1, s1, e1, nc1, nr1, c1, m1, b1, b2, b3, b4, b5, b6, b7, b8, b9⟩ | ⟨f, c', b1, b2, b3, b4⟩
  · have b41 := b4.1
    rcases wnum_both (TP_cl H _) b4 b6 b7 (cc := cc) (p := 2) (hi := h2) (a := a + 2) hk hk4 (by rw [cl_count]; exact hcc) h24 (by decide) hh2 (by omega) ht with ⟨v, d1, ct', s', e', nc', nr', c', m', d2, d3, d4, d5, d6, d7, d8⟩ | ⟨f, s', g, tx1, c', m', d1, d2, d3, d4, d5, d6⟩
    · rw [cl_get, cl_two] at d5
      exact Or.inl ⟨nr, v, ⟨b1.2.1, b1.2.2, d1⟩, ct', s', e', nc', nr', c', m', by omega, d3, d4, d5, d6, fun post hp => b8 _ (d7 post hp), fun post hp => fig 0 m1 b9 post (p_yes rfl (d8 _ hp))⟩
    · rw [cl_two] at d2
      refine Or.inr ⟨f, s', g, tx1, c', m', d1, d2, d3, ?_, fun post hp => b8 _ (d5 post hp), fun post hp => fig 0 m1 b9 post (p_yes rfl (d6 _ hp))⟩
      intro k' hk'
      rw [d4 k' hk', upd_ne _ _ (by omega)]
  · refine Or.inr ⟨f, s, cx_r_clauses S, tx0, c', m, b1, by rw [cl_self]; exact b2, KM_FM hm, fun _ _ => rfl, fun post hp => b3 _ (fc_expect b1 b2 ?_ _ (fc_number b1 b2 _ _ _ _ hp)), fun post hp => fig (nI f) m b4 post (p_no (nI_ne0 b1.1 (by omega)) hp)⟩
    intro z
    have := (nI_eq (a := 30) (by decide) (by omega)).mp z
    omega
