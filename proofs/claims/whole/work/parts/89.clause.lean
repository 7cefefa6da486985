/-! PURE LAYER: a text's record grows by a clause -/
theorem soN_3 : ∀ so, so < 10 → soN so ≤ 3 := by decide
theorem trDeed_add {n so : Nat} {x cl x' cl' : Nat → Int32} (h : trDeed n x cl) (hx : ∀ k, 0 < k → k < 1 + 4 * n → x' k = x k) (hcl : ∀ k, k < 4 * n → cl' k = cl k) (hso : so < 10) (h1 : x' (1 + 4 * n) = nI so) (h2 : cl' (4 * n) = nI (soC so)) (h3 : ∀ j, j < soN so → cl' (4 * n + (j + 1)) = x' (2 + 4 * n + j)) (h9 : so = 9 → 1 ≤ x' (2 + 4 * n) ∧ x' (2 + 4 * n) ≤ 60) : trDeed (n + 1) x' cl' := by
  intro k hk
  by_cases z : k = n
  · rw [z]
    exact ⟨so, hso, h1, h2, h3, h9⟩
  · obtain ⟨so', a1, a2, a3, a4, a5⟩ := h k (by omega)
    have n3 := soN_3 so' a1
    refine ⟨so', a1, ?_, ?_, ?_, ?_⟩
    · rw [hx _ (by omega) (by omega)]
      exact a2
    · rw [hcl _ (by omega)]
      exact a3
    · intro j hj
      rw [hcl _ (by omega), hx _ (by omega) (by omega)]
      exact a4 j hj
    · intro q
      rw [hx _ (by omega) (by omega)]
      exact a5 q
/-- a law read or not yet, as the text's record has it -/
def LW (n : Nat) (x bd : Nat → Int32) (C : List (Nat × Nat)) (o s : Nat) : Prop := (o.testBit s = false ∧ (∀ k, k < n → x (1 + 4 * k) ≠ nI s) ∧ bd (2 * s) = 0 ∧ bd (2 * s + 1) = 0) ∨ (o.testBit s = true ∧ ∃ (k i0 : Nat) (L : List (Nat × Nat)), k < n ∧ x (1 + 4 * k) = nI s ∧ (∀ k', k' < n → x (1 + 4 * k') = nI s → k' = k) ∧ x (2 + 4 * k) = nI i0 ∧ x (3 + 4 * k) = nI (i0 + L.length) ∧ bd (2 * s) = nI i0 ∧ bd (2 * s + 1) = nI (i0 + L.length) ∧ i0 + L.length ≤ C.length ∧ 0 < L.length ∧ (∀ j, j < L.length → L[j]? = C[i0 + j]?) ∧ tyRun s L [] = some [true])
theorem LW_keep {n : Nat} {x bd x' bd' : Nat → Int32} {C : List (Nat × Nat)} {o o' s : Nat} (E : List (Nat × Nat)) (h : LW n x bd C o s) (hx : ∀ k, 0 < k → k < 1 + 4 * n → x' k = x k) (hn : x' (1 + 4 * n) ≠ nI s) (b1 : bd' (2 * s) = bd (2 * s)) (b2 : bd' (2 * s + 1) = bd (2 * s + 1)) (ho : o'.testBit s = o.testBit s) : LW (n + 1) x' bd' (C ++ E) o' s := by
  rcases h with ⟨a1, a2, a3, a4⟩ | ⟨a1, k, i0, L, a2, a3, a4, a5, a6, a7, a8, a9, a10, a11, a12⟩
  · refine Or.inl ⟨ho.trans a1, ?_, b1.trans a3, b2.trans a4⟩
    intro k hk
    by_cases z : k = n
    · rw [z]
      exact hn
    · rw [hx _ (by omega) (by omega)]
      exact a2 k (by omega)
  · refine Or.inr ⟨ho.trans a1, k, i0, L, by omega, ?_, ?_, ?_, ?_, b1.trans a7, b2.trans a8, ?_, a10, ?_, a12⟩
    · rw [hx _ (by omega) (by omega)]
      exact a3
    · intro k' hk' e
      by_cases z : k' = n
      · rw [z] at e
        exact absurd e hn
      · rw [hx _ (by omega) (by omega)] at e
        exact a4 k' (by omega) e
    · rw [hx _ (by omega) (by omega)]
      exact a5
    · rw [hx _ (by omega) (by omega)]
      exact a6
    · rw [List.length_append]
      omega
    · intro j hj
      rw [List.getElem?_append_left (by omega)]
      exact a11 j hj
theorem LW_new {n : Nat} {x bd x' bd' : Nat → Int32} {C E : List (Nat × Nat)} {o o' s : Nat} (h : LW n x bd C o s) (hf : o.testBit s = false) (hx : ∀ k, 0 < k → k < 1 + 4 * n → x' k = x k) (h1 : x' (1 + 4 * n) = nI s) (h2 : x' (2 + 4 * n) = nI C.length) (h3 : x' (3 + 4 * n) = nI (C ++ E).length) (b1 : bd' (2 * s) = nI C.length) (b2 : bd' (2 * s + 1) = nI (C ++ E).length) (hE : 0 < E.length) (ty : tyRun s E [] = some [true]) (ho : o'.testBit s = true) : LW (n + 1) x' bd' (C ++ E) o' s := by
  rcases h with ⟨a1, a2, a3, a4⟩ | ⟨a1, _⟩
  · rw [List.length_append] at h3 b2
    refine Or.inr ⟨ho, n, C.length, E, by omega, h1, ?_, h2, h3, b1, b2, ?_, hE, ?_, ty⟩
    · intro k' hk' e
      by_cases z : k' = n
      · exact z
      · rw [hx _ (by omega) (by omega)] at e
        exact absurd e (a2 k' (by omega))
    · rw [List.length_append]
      omega
    · intro j hj
      rw [List.getElem?_append_right (by omega), show C.length + j - C.length = j by omega]
  · rw [hf] at a1
    cases a1
/-- .. and so the finished text's law -/
theorem LW_tr {n t : Nat} {x bd cd tx : Nat → Int32} {C : List (Nat × Nat)} {o s : Nat} (h : LW n x bd C o s) (hc : CodeC C cd) (hm : CodeM t C tx) (hx : ∀ k, x k = tx (705 * t + k)) : trLaw n x bd cd C.length s := by
  rcases h with ⟨a1, a2, a3, a4⟩ | ⟨a1, k, i0, L, a2, a3, a4, a5, a6, a7, a8, a9, a10, a11, a12⟩
  · exact Or.inl ⟨a2, a3, a4⟩
  · refine Or.inr ⟨k, i0, L, a2, a3, a4, a5, a6, a7, a8, a9, a10, ?_, a12⟩
    intro j hj
    have e : L[j]? = some L[j] := List.getElem?_eq_getElem hj
    have e2 : C[i0 + j]? = some L[j] := (a11 j hj).symm.trans e
    obtain ⟨m1, m2⟩ := hm _ _ e2
    refine ⟨L[j], e, hc _ _ e2, ?_, ?_⟩
    · rw [hx, ← m1]
      congr 1
      omega
    · rw [hx, ← m2]
      congr 1
      omega
theorem mA_b_sort0 (S : MS) (aa pl tk nu : Int32) (wd : Int64) (tx : Nat → Int32) (wr : Int32) (pi : Nat → Int32) (pd op iw : Int32) (z : Int32) : ms_set_sort0 (mA S aa pl tk nu wd tx wr pi pd op iw) z = mA (ms_set_sort0 S z) aa pl tk nu wd tx wr pi pd op iw := by
  simp only [mA, ms_set_at, ms_set_place, ms_set_token, ms_set_number, ms_set_word, ms_set_texts, ms_set_written, ms_set_pile, ms_set_piled, ms_set_opens, ms_set_isWhole, ms_set_sort0]
theorem KM_sort0 {M : MS} {b : Nat → Nat} {t : Nat} {tx0 : Nat → Int32} {ct s e nr : Nat} {C : List (Nat × Nat)} {m : MS} (h : KM M b t tx0 ct s e nr C m) (z : Int32) : KM (ms_set_sort0 M z) b t tx0 ct s e nr C (ms_set_sort0 m z) := by
  obtain ⟨tk, nu, wd, tx, pi, pd, op, iw, e1, e2, e3, e4, e6⟩ := h
  refine ⟨tk, nu, wd, tx, pi, pd, op, iw, ?_, e2, e3, e4, e6⟩
  rw [e1, mA_b_sort0]
theorem mA_b_once (S : MS) (aa pl tk nu : Int32) (wd : Int64) (tx : Nat → Int32) (wr : Int32) (pi : Nat → Int32) (pd op iw : Int32) (z : Int32) : ms_set_once (mA S aa pl tk nu wd tx wr pi pd op iw) z = mA (ms_set_once S z) aa pl tk nu wd tx wr pi pd op iw := by
  simp only [mA, ms_set_at, ms_set_place, ms_set_token, ms_set_number, ms_set_word, ms_set_texts, ms_set_written, ms_set_pile, ms_set_piled, ms_set_opens, ms_set_isWhole, ms_set_once]
theorem KM_once {M : MS} {b : Nat → Nat} {t : Nat} {tx0 : Nat → Int32} {ct s e nr : Nat} {C : List (Nat × Nat)} {m : MS} (h : KM M b t tx0 ct s e nr C m) (z : Int32) : KM (ms_set_once M z) b t tx0 ct s e nr C (ms_set_once m z) := by
  obtain ⟨tk, nu, wd, tx, pi, pd, op, iw, e1, e2, e3, e4, e6⟩ := h
  refine ⟨tk, nu, wd, tx, pi, pd, op, iw, ?_, e2, e3, e4, e6⟩
  rw [e1, mA_b_once]
