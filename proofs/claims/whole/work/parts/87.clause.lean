/-! PURE LAYER: both readers in step: a law's clause -/
/-- what reading leaves alone -/
def fS (S S' : CS) : Prop := S'.1 = S.1 ∧ S'.2.1 = S.2.1 ∧ S'.2.2.2 = S.2.2.2
/-- a fault of a clause, on both sides -/
def GF (S : CS) (M : MS) (t : Nat) (tx0 : Nat → Int32) (W : (CS → Prop) → Prop) (V : (Int32 → MS → Prop) → Prop) : Prop := ∃ (f s' : Nat) (S' : CS) (tx1 : Nat → Int32) (c' : CS) (m' : MS), (0 < f ∧ f < 9) ∧ fS S S' ∧ FCs S' f s' c' ∧ FM M t tx1 s' m' ∧ (∀ k, k < 705 * t → tx1 k = tx0 k) ∧ rv W c' ∧ rt V (nI f) m'
theorem FM_put {M : MS} {t : Nat} {tx1 : Nat → Int32} {s : Nat} {m : MS} (h : FM M t tx1 s m) {a : Nat} (v : Int32) : FM M t (upd tx1 a v) s (ms_set_texts m (upd (ms_texts m) a v)) := by
  obtain ⟨aa, tk, nu, wd, tx, wr, pi, pd, op, iw, e1, e2⟩ := h
  refine ⟨aa, tk, nu, wd, upd tx a v, wr, pi, pd, op, iw, ?_, ?_⟩
  · rw [e1, mA_texts, mA_s_texts]
  · intro k hk
    by_cases z : k = a
    · rw [z, upd_eq, upd_eq]
    · rw [upd_ne _ _ z, upd_ne _ _ z]
      exact e2 k hk
theorem KM_written {M : MS} {b : Nat → Nat} {t : Nat} {tx0 : Nat → Int32} {ct s e nr : Nat} {C : List (Nat × Nat)} {m : MS} (h : KM M b t tx0 ct s e nr C m) : ms_written m = nI C.length := by
  obtain ⟨tk, nu, wd, tx, pi, pd, op, iw, e1, e2, e3, e4, e6⟩ := h
  rw [e1, mA_written]
theorem KM_begin {M : MS} {b : Nat → Nat} {t : Nat} {tx0 : Nat → Int32} {ct s e nr : Nat} {C : List (Nat × Nat)} {m : MS} (h : KM M b t tx0 ct s e nr C m) : CM M b t tx0 ct s e nr C [] 0 0 (ms_set_isWhole (ms_set_opens (ms_set_piled m 0) 0) 0) := by
  obtain ⟨tk, nu, wd, tx, pi, pd, op, iw, e1, e2, e3, e4, e6⟩ := h
  refine ⟨tk, nu, wd, tx, pi, ?_, e2, e3, e4, trivial, e6⟩
  rw [e1, mA_s_piled, mA_s_opens, mA_s_isWhole]
  rfl
def lawW (s0 : Nat) (c : CS) (post : CS → Prop) : Prop := ∀ S_10 : CS, S_10 = (cx_set_r_law c (nI (12 + s0))) → (∀ S_11 : CS, S_11 = (cx_set_r_bounds S_10 (k_put 6 (cx_r_bounds S_10) ((nI (12 + s0) - 12) * 2) (cx_r_codeLength S_10))) → wC_X6_readSum S_11 (fun S_13 => (∀ S_14 : CS, S_14 = (cx_set_r_bounds S_13 (k_put 6 (cx_r_bounds S_13) (((nI (12 + s0) - 12) * 2) + 1) (cx_r_codeLength S_13))) → post S_14)))
theorem bd_ix : ∀ s0, s0 < 3 → ((nI (12 + s0) - 12) * 2 : Int32) = nI (2 * s0) ∧ ((nI (12 + s0) - 12) * 2 + 1 : Int32) = nI (2 * s0 + 1) := by decide +kernel
theorem lawc_both {S : CS} {M : MS} {n : Nat} {b : Nat → Nat} {t : Nat} {s0 : Nat} (H : TP S M n b) {tx0 : Nat → Int32} {ct s e nc nr : Nat} {C : List (Nat × Nat)} {c : CS} {m : MS} (hT : TN n ct s e nc nr) (hc : CC S ct s e nc C 0 c) (hm : KM M b t tx0 ct s e nr C m) {a : Nat} (ht : t < 4) (h3 : s0 < 3) (hs : ms_sort0 M = nI s0) (hx : ms_text0 M = nI (705 * t)) (hlen : C.length ≤ s) (ha : 705 * t ≤ a ∧ a + 3 < 705 * t + 97) : (∃ (ct' s' e' nc' nr' : Nat) (E : List (Nat × Nat)) (c' : CS) (m' : MS), e ≤ s' ∧ TN n ct' s' e' nc' nr' ∧ CC (cx_set_r_bounds (cx_set_r_law S (nI (12 + s0))) (upd (upd (cx_r_bounds S) (2 * s0) (nI C.length)) (2 * s0 + 1) (nI (C ++ E).length))) ct' s' e' nc' (C ++ E) 0 c' ∧ KM M b t (upd (upd tx0 (a + 1) (nI C.length)) (a + 2) (nI (C ++ E).length)) ct' s' e' nr' (C ++ E) m' ∧ (C ++ E).length ≤ s' ∧ 0 < E.length ∧ tyRun s0 E [] = some [true] ∧ rv (lawW s0 c) c' ∧ rt (wM_lawClause (nI a) m) 0 m') ∨ GF S M t tx0 (lawW s0 c) (wM_lawClause (nI a) m) := by
  obtain ⟨x1, x2⟩ := bd_ix s0 h3
  have hc1 : CC (cx_set_r_bounds (cx_set_r_law S (nI (12 + s0))) (upd (cx_r_bounds S) (2 * s0) (nI C.length))) ct s e nc C 0 (cx_set_r_bounds (cx_set_r_law c (nI (12 + s0))) (upd (cx_r_bounds S) (2 * s0) (nI C.length))) := by
    obtain ⟨nu, cd, e1, e2, e3⟩ := hc
    refine ⟨nu, cd, ?_, e2, e3⟩
    rw [e1, cA_b_law, cA_b_bounds]
  have start : ∀ post : CS → Prop, wC_X6_readSum (cx_set_r_bounds (cx_set_r_law c (nI (12 + s0))) (upd (cx_r_bounds S) (2 * s0) (nI C.length))) (fun S_13 => post (cx_set_r_bounds S_13 (k_put 6 (cx_r_bounds S_13) (nI (2 * s0 + 1)) (cx_r_codeLength S_13)))) → lawW s0 c post := by
    intro post h
    unfold lawW
    rw [p_all, p_all, x2, x1]
    have q : cx_r_bounds (cx_set_r_law c (nI (12 + s0))) = cx_r_bounds S ∧ cx_r_codeLength (cx_set_r_law c (nI (12 + s0))) = nI C.length := by
      obtain ⟨nu, cd, e1, e2, e3⟩ := hc
      rw [e1, cA_b_law, cA_bounds, cA_codeLength]
      exact ⟨by simp only [cx_r_bounds, cx_set_r_law], rfl⟩
    rw [q.1, q.2, p_put (by decide) _ (by omega)]
    simp only [p_all]
    exact h
  have hm1 := KM_put hm (a := a + 1) (by omega) (nI C.length)
  have hm2 := KM_begin hm1
  have HX1 : HX (cx_set_r_bounds (cx_set_r_law S (nI (12 + s0))) (upd (cx_r_bounds S) (2 * s0) (nI C.length))) M n b t s0 := by
    obtain ⟨q1, q2, q3, q4⟩ := H
    refine ⟨⟨q1, Eq.trans (show cx_r_length (cx_set_r_bounds (cx_set_r_law S (nI (12 + s0))) (upd (cx_r_bounds S) (2 * s0) (nI C.length))) = cx_r_length S by simp only [cx_set_r_bounds, cx_set_r_law, cx_r_length]) q2, q3, ?_⟩, ht, h3, by simp only [cx_set_r_bounds, cx_set_r_law, cx_r_law], hs, hx⟩
    intro i hi
    have := q4 i hi
    exact ⟨Eq.trans (show cx_r_tape (cx_set_r_bounds (cx_set_r_law S (nI (12 + s0))) (upd (cx_r_bounds S) (2 * s0) (nI C.length))) i = cx_r_tape S i by simp only [cx_set_r_bounds, cx_set_r_law, cx_r_tape]) this.1, this.2⟩
  have refS : ∀ (post : Int32 → MS → Prop), Lp (fun r_2 S_3 => post r_2 (ms_set_texts S_3 (upd (ms_texts S_3) (a + 2) (ms_written S_3)))) (ms_set_isWhole (ms_set_opens (ms_set_piled (ms_set_texts m (upd (ms_texts m) (a + 1) (nI C.length))) 0) 0) 0) → wM_lawClause (nI a) m post := by
    intro post h
    unfold wM_lawClause wM_summed
    rw [nI_1 a, show (nI a + 2 : Int32) = nI (a + 2) from (nI_add a 2), KM_written hm, nI_clamp (by omega), nI_clamp (by omega)]
    refine ⟨vp_in_nI (by omega) (by decide), ?_⟩
    simp only [p_all]
    obtain ⟨N, hN⟩ := h
    refine ⟨N, ?_⟩
    have ev : (fun (r_2 : Int32) (S_3 : MS) => (vp_in (nI (a + 2)) 2820 ∧ post r_2 (ms_set_texts S_3 (upd (ms_texts S_3) (a + 2) (ms_written S_3))))) = (fun r_2 S_3 => post r_2 (ms_set_texts S_3 (upd (ms_texts S_3) (a + 2) (ms_written S_3)))) := by
      funext r S
      exact propext ⟨fun z => z.2, fun z => ⟨vp_in_nI (by omega) (by decide), z⟩⟩
    rw [ev]
    exact hN
  rcases law_both HX1 hT hc1 hm2 hlen with ⟨ct', s', e', nc', nr', E, c', m', a1, a2, a3, a4, a5, a6, a7, a8⟩ | ⟨f, s', c', m', a1, a2, a3, a4, a5⟩
  · have hE : 0 < E.length := by
      cases E with
      | nil => cases a6
      | cons x l => exact Nat.succ_pos _
    have k1 := CM_KM a4
    have k2 := KM_put k1 (a := a + 2) (by omega) (ms_written m')
    rw [KM_written k1] at k2
    have hc2 : CC (cx_set_r_bounds (cx_set_r_law S (nI (12 + s0))) (upd (upd (cx_r_bounds S) (2 * s0) (nI C.length)) (2 * s0 + 1) (nI (C ++ E).length))) ct' s' e' nc' (C ++ E) 0 (cx_set_r_bounds c' (upd (upd (cx_r_bounds S) (2 * s0) (nI C.length)) (2 * s0 + 1) (nI (C ++ E).length))) := by
      obtain ⟨nu, cd, e1, e2, e3⟩ := a3
      refine ⟨nu, cd, ?_, e2, e3⟩
      rw [e1, cA_b_bounds]
      simp only [cx_set_r_bounds]
    refine Or.inl ⟨ct', s', e', nc', nr', E, _, _, a1, a2, hc2, k2, a5, hE, a6, ?_, ?_⟩
    · intro post hp
      refine start post (a7 _ ?_)
      have q : cx_r_bounds c' = upd (cx_r_bounds S) (2 * s0) (nI C.length) ∧ cx_r_codeLength c' = nI (C ++ E).length := by
        obtain ⟨nu, cd, e1, e2, e3⟩ := a3
        rw [e1, cA_bounds, cA_codeLength]
        exact ⟨by simp only [cx_r_bounds, cx_set_r_bounds], rfl⟩
      rw [q.1, q.2, p_put (by decide) _ (by omega)]
      exact hp
    · intro post hp
      refine refS post (a8 _ ?_)
      rw [KM_written k1]
      exact hp
  · refine Or.inr ⟨f, s', cx_set_r_bounds (cx_set_r_bounds (cx_set_r_law S (nI (12 + s0))) (upd (cx_r_bounds S) (2 * s0) (nI C.length))) (k_put 6 (cx_r_bounds c') (nI (2 * s0 + 1)) (cx_r_codeLength c')), _, _, _, a1, ?_, ?_, FM_put a3 (a := a + 2) (ms_written m'), ?_, fun post hp => start post (a4 _ hp), fun post hp => refS post (a5 _ hp)⟩
    · refine ⟨?_, ?_, ?_⟩ <;> simp only [cx_set_r_bounds, cx_set_r_law]
    · obtain ⟨pl, nu, cd, cl, op, e1⟩ := a2
      refine ⟨pl, nu, cd, cl, op, ?_⟩
      rw [← cA_b_bounds, ← e1]
    · intro k hk
      rw [upd_ne _ _ (by omega), upd_ne _ _ (by omega)]
