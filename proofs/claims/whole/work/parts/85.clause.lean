/-! PURE LAYER: both readers in step: deeds -/
theorem fc_wnum {S : CS} {f s : Nat} (hf : 0 < f ∧ f < 9) {c : CS} (h : FCs S f s c) {k : Nat} (hk : k < 30) (p lo hi : Int32) (post : CS → Prop) (hp : post c) : wC_X6_expect (nI k) c (fun S_4 => wC_X6_readNumber p lo hi S_4 post) := by
  refine fc_expect hf h ?_ _ (fc_number hf h _ _ _ _ hp)
  intro z
  have := (nI_eq (a := 30) (by decide) (by omega)).mp z
  omega
theorem mood_both {S : CS} {M : MS} {n : Nat} {b : Nat → Nat} {t : Nat} (H : TP S M n b) {tx0 : Nat → Int32} {ct s e nc nr : Nat} {C : List (Nat × Nat)} {c : CS} {m : MS} (hT : TN n ct s e nc nr) (hc : CC S ct s e nc C 0 c) (hm : KM M b t tx0 ct s e nr C m) {cc a : Nat} (hcc : cx_r_clauseCount S = nI cc) (h24 : cc < 24) (ha : 705 * t ≤ a ∧ a + 3 < 705 * t + 97) (ht : t < 4) : (∃ v1 v2 v3, NOk S M n b t tx0 e C (upd (upd (upd (cx_r_clauses S) (4 * cc + 1) (nI v1)) (4 * cc + 2) (nI v2)) (4 * cc + 3) (nI v3)) (upd (upd (upd tx0 (a + 1) (nI v1)) (a + 2) (nI v2)) (a + 3) (nI v3)) (fun post => wC_X6_readNumber (nI 1) (nI 0) (nI 9) c (fun S_2 => wC_X6_expect (nI 18) S_2 (fun S_4 => wC_X6_readNumber (nI 2) 0 (nI 4) S_4 (fun S_6 => wC_X6_expect (nI 19) S_6 (fun S_8 => wC_X6_readNumber (nI 3) 0 (nI 9) S_8 post))))) (wM_moodClause (nI a) m)) ∨ NF S M t (fun post => wC_X6_readNumber (nI 1) (nI 0) (nI 9) c (fun S_2 => wC_X6_expect (nI 18) S_2 (fun S_4 => wC_X6_readNumber (nI 2) 0 (nI 4) S_4 (fun S_6 => wC_X6_expect (nI 19) S_6 (fun S_8 => wC_X6_readNumber (nI 3) 0 (nI 9) S_8 post))))) (wM_moodClause (nI a) m) tx0 := by
  have fig : ∀ (r : Int32) (m1 : MS), rt (wM_figure (nI (a + 1)) (nI 0) (nI 9) m) r m1 → ∀ post : Int32 → MS → Prop, ((r = 0 → wM_worded (wK 18) (nI (a + 2)) (nI 4) m1 (fun r_6 S_7 => wM_moodClause_31 post (nI a) r_6 S_7)) ∧ (¬ r = 0 → wM_moodClause_31 post (nI a) r m1)) → wM_moodClause (nI a) m post := by
    intro r m1 hr post h
    unfold wM_moodClause
    rw [nI_1 a, show (nI a + 2 : Int32) = nI (a + 2) from (nI_add a 2)]
    refine hr _ ?_
    rw [wv_18]
    exact h
  have go3 : ∀ (post : Int32 → MS → Prop) (m1 : MS), wM_worded (wK 19) (nI (a + 3)) (nI 9) m1 (fun r_4 S_5 => post r_4 S_5) → wM_moodClause_31 post (nI a) 0 m1 := by
    intro post m1 h
    unfold wM_moodClause_31
    rw [wv_19, show (nI a + 3 : Int32) = nI (a + 3) from (nI_add a 3)]
    exact p_yes rfl h
  have gof : ∀ (post : Int32 → MS → Prop) (m1 : MS) (f : Nat), (0 < f ∧ f < 9) → post (nI f) m1 → wM_moodClause_31 post (nI a) (nI f) m1 := by
    intro post m1 f hf h
    exact p_no (nI_ne0 hf.1 (by omega)) h
  rcases num_both H hT hc hm (p := 1) (lo := 0) (hi := 9) (a := a + 1) hcc h24 (by decide) (by decide) (by decide) (by omega) ht with ⟨ct1, s1, e1, nc1, nr1, c1, m1, b1, b2, b3, b4, b5, b6, b7, b8, b9⟩ | ⟨f, c', b1, b2, b3, b4⟩
  · have b41 := b4.1
    rcases wnum_both (TP_cl H _) b4 b6 b7 (cc := cc) (k := 18) (p := 2) (hi := 4) (a := a + 2) (by decide) (by decide) (by rw [cl_count]; exact hcc) h24 (by decide) (by decide) (by omega) ht with ⟨v, d1, ct2, s2, e2, nc2, nr2, c2, m2, d2, d3, d4, d5, d6, d7, d8⟩ | ⟨f, s', g, tx1, c', m', d1, d2, d3, d4, d5, d6⟩
    · rw [cl_get, cl_two] at d5
      have d31 := d3.1
      rcases wnum_both (TP_cl H _) d3 d5 d6 (cc := cc) (k := 19) (p := 3) (hi := 9) (a := a + 3) (by decide) (by decide) (by rw [cl_count]; exact hcc) h24 (by decide) (by decide) (by omega) ht with ⟨v3, f1, ct3, s3, e3, nc3, nr3, c3, m3, f2, f3, f4, f5, f6, f7, f8⟩ | ⟨f, s', g, tx1, c', m', f1, f2, f3, f4, f5, f6⟩
      · rw [cl_get, cl_two] at f5
        exact Or.inl ⟨nr, v, v3, ct3, s3, e3, nc3, nr3, c3, m3, by omega, f3, f4, f5, f6, fun post hp => b8 _ (d7 _ (f7 post hp)), fun post hp => fig 0 m1 b9 post (p_yes rfl (d8 _ (go3 post m2 (f8 _ hp))))⟩
      · rw [cl_two] at f2
        refine Or.inr ⟨f, s', g, tx1, c', m', f1, f2, f3, ?_, fun post hp => b8 _ (d7 _ (f5 post hp)), fun post hp => fig 0 m1 b9 post (p_yes rfl (d8 _ (go3 post m2 (f6 _ hp))))⟩
        intro k' hk'
        rw [f4 k' hk', upd_ne _ _ (by omega), upd_ne _ _ (by omega)]
    · rw [cl_two] at d2
      refine Or.inr ⟨f, s', g, tx1, c', m', d1, d2, d3, ?_, fun post hp => b8 _ (d5 _ (fc_wnum d1 d2 (by decide) _ _ _ post hp)), fun post hp => fig 0 m1 b9 post (p_yes rfl (d6 _ (gof post m' f d1 hp)))⟩
      intro k' hk'
      rw [d4 k' hk', upd_ne _ _ (by omega)]
  · exact Or.inr ⟨f, s, cx_r_clauses S, tx0, c', m, b1, by rw [cl_self]; exact b2, KM_FM hm, fun _ _ => rfl, fun post hp => b3 _ (fc_wnum b1 b2 (k := 18) (by decide) _ _ _ _ (fc_wnum b1 b2 (k := 19) (by decide) _ _ _ post hp)), fun post hp => fig (nI f) m b4 post (p_no (nI_ne0 b1.1 (by omega)) (gof post m f b1 hp))⟩
/-- what a deed's clause leaves, on both sides -/
def Row (S : CS) (tx0 : Nat → Int32) (so cc a : Nat) (g tx1 : Nat → Int32) : Prop := (∀ j, j < soN so → g (4 * cc + (j + 1)) = tx1 (a + 1 + j)) ∧ (∀ k, (k < 4 * cc + 1 ∨ 4 * cc + 3 < k) → g k = cx_r_clauses S k) ∧ (∀ k, (k ≤ a ∨ a + 3 < k) → tx1 k = tx0 k) ∧ (so = 9 → 1 ≤ tx1 (a + 1) ∧ tx1 (a + 1) ≤ 60)
theorem row_1 (S : CS) (tx0 : Nat → Int32) {so cc a v1 : Nat} (h : soN so = 1) (h9 : so = 9 → 1 ≤ v1 ∧ v1 ≤ 60) : Row S tx0 so cc a (upd (cx_r_clauses S) (4 * cc + 1) (nI v1)) (upd tx0 (a + 1) (nI v1)) := by
  refine ⟨?_, ?_, ?_, ?_⟩
  · intro j hj
    have ej : j = 0 := by omega
    rw [ej]
    show upd _ (4 * cc + 1) _ (4 * cc + 1) = upd _ (a + 1) _ (a + 1)
    rw [upd_eq, upd_eq]
  · intro k hk
    rw [upd_ne _ _ (by omega)]
  · intro k hk
    rw [upd_ne _ _ (by omega)]
  · intro z
    rw [upd_eq]
    have := h9 z
    exact ⟨nI_le (a := 1) (by omega) (by omega), (nI_leI (b := 60) (by omega) (by decide)).mpr this.2⟩
theorem row_2 (S : CS) (tx0 : Nat → Int32) {so cc a v1 v2 : Nat} (h : soN so = 2) (h9 : so ≠ 9) : Row S tx0 so cc a (upd (upd (cx_r_clauses S) (4 * cc + 1) (nI v1)) (4 * cc + 2) (nI v2)) (upd (upd tx0 (a + 1) (nI v1)) (a + 2) (nI v2)) := by
  refine ⟨?_, ?_, ?_, fun z => absurd z h9⟩
  · intro j hj
    have ej : j = 0 ∨ j = 1 := by omega
    rcases ej with z | z
    · rw [z]
      show upd _ (4 * cc + 2) _ (4 * cc + 1) = upd _ (a + 2) _ (a + 1)
      rw [upd_ne _ _ (by omega), upd_eq, upd_ne _ _ (by omega), upd_eq]
    · rw [z]
      show upd _ (4 * cc + 2) _ (4 * cc + 2) = upd _ (a + 2) _ (a + 2)
      rw [upd_eq, upd_eq]
  · intro k hk
    rw [upd_ne _ _ (by omega), upd_ne _ _ (by omega)]
  · intro k hk
    rw [upd_ne _ _ (by omega), upd_ne _ _ (by omega)]
theorem row_3 (S : CS) (tx0 : Nat → Int32) {so cc a v1 v2 v3 : Nat} (h : soN so = 3) (h9 : so ≠ 9) : Row S tx0 so cc a (upd (upd (upd (cx_r_clauses S) (4 * cc + 1) (nI v1)) (4 * cc + 2) (nI v2)) (4 * cc + 3) (nI v3)) (upd (upd (upd tx0 (a + 1) (nI v1)) (a + 2) (nI v2)) (a + 3) (nI v3)) := by
  refine ⟨?_, ?_, ?_, fun z => absurd z h9⟩
  · intro j hj
    have ej : j = 0 ∨ j = 1 ∨ j = 2 := by omega
    rcases ej with z | z | z
    · rw [z]
      show upd _ (4 * cc + 3) _ (4 * cc + 1) = upd _ (a + 3) _ (a + 1)
      rw [upd_ne _ _ (by omega), upd_ne _ _ (by omega), upd_eq, upd_ne _ _ (by omega), upd_ne _ _ (by omega), upd_eq]
    · rw [z]
      show upd _ (4 * cc + 3) _ (4 * cc + 2) = upd _ (a + 3) _ (a + 2)
      rw [upd_ne _ _ (by omega), upd_eq, upd_ne _ _ (by omega), upd_eq]
    · rw [z]
      show upd _ (4 * cc + 3) _ (4 * cc + 3) = upd _ (a + 3) _ (a + 3)
      rw [upd_eq, upd_eq]
  · intro k hk
    rw [upd_ne _ _ (by omega), upd_ne _ _ (by omega), upd_ne _ _ (by omega)]
  · intro k hk
    rw [upd_ne _ _ (by omega), upd_ne _ _ (by omega), upd_ne _ _ (by omega)]
