/-! PURE LAYER: image, back -/
theorem cpW (n : Nat) (hn : n < 2 ^ 31) (f g : Nat → Int32) : k_copyW n n f g = va_cpy f g 0 0 n := by
  unfold k_copyW k_copyP
  have s : nI n - 0 = nI n := Int32.sub_zero _
  rw [if_neg (by decide), if_neg (by decide), if_neg (nI_pos hn), s, if_neg (nI_nlt (Nat.le_refl n) hn), if_neg (nI_nlt (Nat.le_refl n) hn), nI_clamp hn]
  rfl
theorem cpW_at {n : Nat} (f g : Nat → Int32) {j : Nat} (h : j < n) : va_cpy f g 0 0 n j = f j := by
  rw [cpy_in (by omega)]
  congr 1
  omega
theorem RC_ext {c c' : CS_c} {a a' : Nat → Int32} (R : RC c a) (h1 : ∀ j, j < 74 → cc_now c' j = cc_now c j) (h2 : ∀ i, 74 ≤ i → i < 196 → oC c' i = oC c i) (h3 : ∀ j, j < 8 → cc_trials c' j = cc_trials c j) (h4 : ∀ j, j < 8 → cc_growns c' j = cc_growns c j) (h5 : ∀ j, j < 2220 → cc_rows c' j = cc_rows c j) (h6 : cc_first c' = cc_first c) (ha : ∀ j, j < 2454 → a' j = a j) : RC c' a' := by
  obtain ⟨r1, r2, r3, r4, r5⟩ := R
  refine ⟨?_, ?_, ?_, ?_, ?_⟩
  · intro i hi
    have := ix_now i hi
    rw [h1 i hi, ha _ (by omega)]
    exact r1 i hi
  · intro i g1 g2
    have := (ix_lt i g2).1
    rw [h2 i g1 g2, ha _ this]
    exact r2 i g1 g2
  · intro i hi
    rw [h3 i hi, h4 i hi, ha 5 (by omega), ha 6 (by omega), ha _ (by omega), ha _ (by omega), ha _ (by omega), ha _ (by omega)]
    exact r3 i hi
  · have r4' : RS (cc_rows c) (cc_first c) a' := by
      refine RS_off r4 ?_ ?_ ?_ ?_
      · intro k hk
        exact ha k (by omega)
      · intro k hk _
        exact ha _ (by omega)
      · rw [ha 0 (by omega)]
        exact Int32.le_refl _
      · rw [ha 1 (by omega)]
        exact Int32.le_refl _
    rw [h6]
    obtain ⟨p, n, q1, q2, q3, q4, q5, q6, q7⟩ := r4'
    refine ⟨p, n, q1, q2, q3, q4, ?_, q6, q7⟩
    intro j hj i hi
    rw [h5 _ (by omega)]
    exact q5 j hj i hi
  · rw [ha 3 (by omega), ha 2 (by omega)]
    exact r5
theorem Top_ext {a a' : Nat → Int32} (T : Top a) (ha : ∀ j, j < 2454 → a' j = a j) : Top a' := by
  refine Top_off T ?_ ?_ ?_
  · intro k hk
    exact ha k (by omega)
  · intro i hi
    have := ix_now i hi
    exact ha _ (by omega)
  · intro k hk _
    exact ha _ (by omega)
theorem q_image_104 (S : CS) (kx : Nat → Option Nat) (post : CS → Prop) (hp : post ((S.1, (va_cpy S.1.1 S.2.1.1 0 0 74, va_cpy S.1.2.1 S.2.1.2.1 0 0 6, va_cpy S.1.2.2.1 S.2.1.2.2.1 0 0 5, va_cpy S.1.2.2.2.1 S.2.1.2.2.2.1 0 0 5, va_cpy S.1.2.2.2.2.1 S.2.1.2.2.2.2.1 0 0 50, kx, S.1.2.2.2.2.2.2.1, S.1.2.2.2.2.2.2.2.1, va_cpy S.1.2.2.2.2.2.2.2.2.1 S.2.1.2.2.2.2.2.2.2.2.1 0 0 30, va_cpy S.1.2.2.2.2.2.2.2.2.2.1 S.2.1.2.2.2.2.2.2.2.2.2.1 0 0 8, S.1.2.2.2.2.2.2.2.2.2.2.1, va_cpy S.1.2.2.2.2.2.2.2.2.2.2.2.1 S.2.1.2.2.2.2.2.2.2.2.2.2.2.1 0 0 16, va_cpy S.1.2.2.2.2.2.2.2.2.2.2.2.2.1 S.2.1.2.2.2.2.2.2.2.2.2.2.2.2.1 0 0 5, va_cpy S.1.2.2.2.2.2.2.2.2.2.2.2.2.2.1 S.2.1.2.2.2.2.2.2.2.2.2.2.2.2.2.1 0 0 8, S.1.2.2.2.2.2.2.2.2.2.2.2.2.2.2.1, va_cpy S.1.2.2.2.2.2.2.2.2.2.2.2.2.2.2.2.1 S.2.1.2.2.2.2.2.2.2.2.2.2.2.2.2.2.2.1 0 0 2220, S.1.2.2.2.2.2.2.2.2.2.2.2.2.2.2.2.2.1, S.1.2.2.2.2.2.2.2.2.2.2.2.2.2.2.2.2.2), S.2.2) : CS)) : wC_X0_becomes_k_city_104 post ((S.1, (va_cpy S.1.1 S.2.1.1 0 0 74, va_cpy S.1.2.1 S.2.1.2.1 0 0 6, va_cpy S.1.2.2.1 S.2.1.2.2.1 0 0 5, va_cpy S.1.2.2.2.1 S.2.1.2.2.2.1 0 0 5, va_cpy S.1.2.2.2.2.1 S.2.1.2.2.2.2.1 0 0 50, kx, S.2.1.2.2.2.2.2.2.1, S.2.1.2.2.2.2.2.2.2.1, S.2.1.2.2.2.2.2.2.2.2.1, S.2.1.2.2.2.2.2.2.2.2.2.1, S.2.1.2.2.2.2.2.2.2.2.2.2.1, S.2.1.2.2.2.2.2.2.2.2.2.2.2.1, S.2.1.2.2.2.2.2.2.2.2.2.2.2.2.1, S.2.1.2.2.2.2.2.2.2.2.2.2.2.2.2.1, S.2.1.2.2.2.2.2.2.2.2.2.2.2.2.2.2.1, va_cpy S.1.2.2.2.2.2.2.2.2.2.2.2.2.2.2.2.1 S.2.1.2.2.2.2.2.2.2.2.2.2.2.2.2.2.2.1 0 0 2220, S.1.2.2.2.2.2.2.2.2.2.2.2.2.2.2.2.2.1, S.1.2.2.2.2.2.2.2.2.2.2.2.2.2.2.2.2.2), S.2.2) : CS) := by
  unfold wC_X0_becomes_k_city_104
  intro S0 e0
  simp only [cx_set_k_textCount, cx_c_textCount, cx_k_textCount] at e0
  subst e0
  intro S1 e1
  simp only [cx_set_k_ruling, cx_c_ruling, cx_k_ruling] at e1
  subst e1
  intro S2 e2
  simp only [cx_set_k_costs, cx_c_costs, cx_k_costs] at e2
  rw [cpW _ (by decide)] at e2
  subst e2
  intro S3 e3
  simp only [cx_set_k_trials, cx_c_trials, cx_k_trials] at e3
  rw [cpW _ (by decide)] at e3
  subst e3
  intro S4 e4
  simp only [cx_set_k_trialCount, cx_c_trialCount, cx_k_trialCount] at e4
  subst e4
  intro S5 e5
  simp only [cx_set_k_worths, cx_c_worths, cx_k_worths] at e5
  rw [cpW _ (by decide)] at e5
  subst e5
  intro S6 e6
  simp only [cx_set_k_aheads, cx_c_aheads, cx_k_aheads] at e6
  rw [cpW _ (by decide)] at e6
  subst e6
  intro S7 e7
  simp only [cx_set_k_growns, cx_c_growns, cx_k_growns] at e7
  rw [cpW _ (by decide)] at e7
  subst e7
  intro S8 e8
  simp only [cx_set_k_grownCount, cx_c_grownCount, cx_k_grownCount] at e8
  subst e8
  exact hp
theorem q_image_68 (S : CS) (hx : ∀ t, t < 4 → ∀ ad : Nat, S.1.2.2.2.2.2.1 t = some ad → ∃ B : TB, (ad, B) ∈ S.2.2.2.2) (post : CS → Prop) (kx : Nat → Option Nat) (hp : post ((S.1, (va_cpy S.1.1 S.2.1.1 0 0 74, va_cpy S.1.2.1 S.2.1.2.1 0 0 6, va_cpy S.1.2.2.1 S.2.1.2.2.1 0 0 5, va_cpy S.1.2.2.2.1 S.2.1.2.2.2.1 0 0 5, va_cpy S.1.2.2.2.2.1 S.2.1.2.2.2.2.1 0 0 50, (upf (fun i g => va_up g i (S.1.2.2.2.2.2.1 i)) 4 0 kx), S.1.2.2.2.2.2.2.1, S.1.2.2.2.2.2.2.2.1, va_cpy S.1.2.2.2.2.2.2.2.2.1 S.2.1.2.2.2.2.2.2.2.2.1 0 0 30, va_cpy S.1.2.2.2.2.2.2.2.2.2.1 S.2.1.2.2.2.2.2.2.2.2.2.1 0 0 8, S.1.2.2.2.2.2.2.2.2.2.2.1, va_cpy S.1.2.2.2.2.2.2.2.2.2.2.2.1 S.2.1.2.2.2.2.2.2.2.2.2.2.2.1 0 0 16, va_cpy S.1.2.2.2.2.2.2.2.2.2.2.2.2.1 S.2.1.2.2.2.2.2.2.2.2.2.2.2.2.1 0 0 5, va_cpy S.1.2.2.2.2.2.2.2.2.2.2.2.2.2.1 S.2.1.2.2.2.2.2.2.2.2.2.2.2.2.2.1 0 0 8, S.1.2.2.2.2.2.2.2.2.2.2.2.2.2.2.1, va_cpy S.1.2.2.2.2.2.2.2.2.2.2.2.2.2.2.2.1 S.2.1.2.2.2.2.2.2.2.2.2.2.2.2.2.2.2.1 0 0 2220, S.1.2.2.2.2.2.2.2.2.2.2.2.2.2.2.2.2.1, S.1.2.2.2.2.2.2.2.2.2.2.2.2.2.2.2.2.2), S.2.2) : CS)) : ∃ k : Nat, wC_X0_becomes_k_city_68 post k 0 ((S.1, (va_cpy S.1.1 S.2.1.1 0 0 74, va_cpy S.1.2.1 S.2.1.2.1 0 0 6, va_cpy S.1.2.2.1 S.2.1.2.2.1 0 0 5, va_cpy S.1.2.2.2.1 S.2.1.2.2.2.1 0 0 5, va_cpy S.1.2.2.2.2.1 S.2.1.2.2.2.2.1 0 0 50, kx, S.2.1.2.2.2.2.2.2.1, S.2.1.2.2.2.2.2.2.2.1, S.2.1.2.2.2.2.2.2.2.2.1, S.2.1.2.2.2.2.2.2.2.2.2.1, S.2.1.2.2.2.2.2.2.2.2.2.2.1, S.2.1.2.2.2.2.2.2.2.2.2.2.2.1, S.2.1.2.2.2.2.2.2.2.2.2.2.2.2.1, S.2.1.2.2.2.2.2.2.2.2.2.2.2.2.2.1, S.2.1.2.2.2.2.2.2.2.2.2.2.2.2.2.2.1, va_cpy S.1.2.2.2.2.2.2.2.2.2.2.2.2.2.2.2.1 S.2.1.2.2.2.2.2.2.2.2.2.2.2.2.2.2.2.1 0 0 2220, S.1.2.2.2.2.2.2.2.2.2.2.2.2.2.2.2.2.1, S.1.2.2.2.2.2.2.2.2.2.2.2.2.2.2.2.2.2), S.2.2) : CS) := by
  refine ⟨5, up_loop (fun n g i => wC_X0_becomes_k_city_68 post n i ((S.1, (va_cpy S.1.1 S.2.1.1 0 0 74, va_cpy S.1.2.1 S.2.1.2.1 0 0 6, va_cpy S.1.2.2.1 S.2.1.2.2.1 0 0 5, va_cpy S.1.2.2.2.1 S.2.1.2.2.2.1 0 0 5, va_cpy S.1.2.2.2.2.1 S.2.1.2.2.2.2.1 0 0 50, g, S.2.1.2.2.2.2.2.2.1, S.2.1.2.2.2.2.2.2.2.1, S.2.1.2.2.2.2.2.2.2.2.1, S.2.1.2.2.2.2.2.2.2.2.2.1, S.2.1.2.2.2.2.2.2.2.2.2.2.1, S.2.1.2.2.2.2.2.2.2.2.2.2.2.1, S.2.1.2.2.2.2.2.2.2.2.2.2.2.2.1, S.2.1.2.2.2.2.2.2.2.2.2.2.2.2.2.1, S.2.1.2.2.2.2.2.2.2.2.2.2.2.2.2.2.1, va_cpy S.1.2.2.2.2.2.2.2.2.2.2.2.2.2.2.2.1 S.2.1.2.2.2.2.2.2.2.2.2.2.2.2.2.2.2.1 0 0 2220, S.1.2.2.2.2.2.2.2.2.2.2.2.2.2.2.2.2.1, S.1.2.2.2.2.2.2.2.2.2.2.2.2.2.2.2.2.2), S.2.2) : CS)) (fun i g => va_up g i (S.1.2.2.2.2.2.1 i)) (fun g => post ((S.1, (va_cpy S.1.1 S.2.1.1 0 0 74, va_cpy S.1.2.1 S.2.1.2.1 0 0 6, va_cpy S.1.2.2.1 S.2.1.2.2.1 0 0 5, va_cpy S.1.2.2.2.1 S.2.1.2.2.2.1 0 0 5, va_cpy S.1.2.2.2.2.1 S.2.1.2.2.2.2.1 0 0 50, g, S.1.2.2.2.2.2.2.1, S.1.2.2.2.2.2.2.2.1, va_cpy S.1.2.2.2.2.2.2.2.2.1 S.2.1.2.2.2.2.2.2.2.2.1 0 0 30, va_cpy S.1.2.2.2.2.2.2.2.2.2.1 S.2.1.2.2.2.2.2.2.2.2.2.1 0 0 8, S.1.2.2.2.2.2.2.2.2.2.2.1, va_cpy S.1.2.2.2.2.2.2.2.2.2.2.2.1 S.2.1.2.2.2.2.2.2.2.2.2.2.2.1 0 0 16, va_cpy S.1.2.2.2.2.2.2.2.2.2.2.2.2.1 S.2.1.2.2.2.2.2.2.2.2.2.2.2.2.1 0 0 5, va_cpy S.1.2.2.2.2.2.2.2.2.2.2.2.2.2.1 S.2.1.2.2.2.2.2.2.2.2.2.2.2.2.2.1 0 0 8, S.1.2.2.2.2.2.2.2.2.2.2.2.2.2.2.1, va_cpy S.1.2.2.2.2.2.2.2.2.2.2.2.2.2.2.2.1 S.2.1.2.2.2.2.2.2.2.2.2.2.2.2.2.2.2.1 0 0 2220, S.1.2.2.2.2.2.2.2.2.2.2.2.2.2.2.2.2.1, S.1.2.2.2.2.2.2.2.2.2.2.2.2.2.2.2.2.2), S.2.2) : CS)) 4 ?_ ?_ kx hp⟩
  · intro n g q
    show wC_X0_becomes_k_city_68 post (n + 1) (nI 4) ((S.1, (va_cpy S.1.1 S.2.1.1 0 0 74, va_cpy S.1.2.1 S.2.1.2.1 0 0 6, va_cpy S.1.2.2.1 S.2.1.2.2.1 0 0 5, va_cpy S.1.2.2.2.1 S.2.1.2.2.2.1 0 0 5, va_cpy S.1.2.2.2.2.1 S.2.1.2.2.2.2.1 0 0 50, g, S.2.1.2.2.2.2.2.2.1, S.2.1.2.2.2.2.2.2.2.1, S.2.1.2.2.2.2.2.2.2.2.1, S.2.1.2.2.2.2.2.2.2.2.2.1, S.2.1.2.2.2.2.2.2.2.2.2.2.1, S.2.1.2.2.2.2.2.2.2.2.2.2.2.1, S.2.1.2.2.2.2.2.2.2.2.2.2.2.2.1, S.2.1.2.2.2.2.2.2.2.2.2.2.2.2.2.1, S.2.1.2.2.2.2.2.2.2.2.2.2.2.2.2.2.1, va_cpy S.1.2.2.2.2.2.2.2.2.2.2.2.2.2.2.2.1 S.2.1.2.2.2.2.2.2.2.2.2.2.2.2.2.2.2.1 0 0 2220, S.1.2.2.2.2.2.2.2.2.2.2.2.2.2.2.2.2.1, S.1.2.2.2.2.2.2.2.2.2.2.2.2.2.2.2.2.2), S.2.2) : CS)
    rw [wC_X0_becomes_k_city_68]
    exact p_yes (by decide) (q_image_104 S g post q)
  · intro n i g hi q
    show wC_X0_becomes_k_city_68 post (n + 1) (nI i) ((S.1, (va_cpy S.1.1 S.2.1.1 0 0 74, va_cpy S.1.2.1 S.2.1.2.1 0 0 6, va_cpy S.1.2.2.1 S.2.1.2.2.1 0 0 5, va_cpy S.1.2.2.2.1 S.2.1.2.2.2.1 0 0 5, va_cpy S.1.2.2.2.2.1 S.2.1.2.2.2.2.1 0 0 50, g, S.2.1.2.2.2.2.2.2.1, S.2.1.2.2.2.2.2.2.2.1, S.2.1.2.2.2.2.2.2.2.2.1, S.2.1.2.2.2.2.2.2.2.2.2.1, S.2.1.2.2.2.2.2.2.2.2.2.2.1, S.2.1.2.2.2.2.2.2.2.2.2.2.2.1, S.2.1.2.2.2.2.2.2.2.2.2.2.2.2.1, S.2.1.2.2.2.2.2.2.2.2.2.2.2.2.2.1, S.2.1.2.2.2.2.2.2.2.2.2.2.2.2.2.2.1, va_cpy S.1.2.2.2.2.2.2.2.2.2.2.2.2.2.2.2.1 S.2.1.2.2.2.2.2.2.2.2.2.2.2.2.2.2.2.1 0 0 2220, S.1.2.2.2.2.2.2.2.2.2.2.2.2.2.2.2.2.1, S.1.2.2.2.2.2.2.2.2.2.2.2.2.2.2.2.2.2), S.2.2) : CS)
    rw [wC_X0_becomes_k_city_68]
    have v : vp_in (nI i) 4 := vp_in_nI hi (by decide)
    have nl : ¬ (4 : Int32) ≤ nI i := nI_ge (b := 4) hi (by decide)
    refine p_no nl (p_no nl ⟨v, v, ?_, ?_⟩)
    · intro ad ead
      rw [nI_clamp (by omega)] at ead
      exact hx i hi ad ead
    · intro S3 e3
      rw [nI_clamp (by omega), nI_1] at *
      simp only [cx_set_k_texts, cx_c_texts, cx_k_texts] at e3
      subst e3
      exact q
theorem kx_image (S : CS) (kx : Nat → Option Nat) : ∀ t, t < 4 → (upf (fun i g => va_up g i (S.1.2.2.2.2.2.1 i)) 4 0 kx) t = S.1.2.2.2.2.2.1 t :=
  upf_I (fun i g => va_up g i (S.1.2.2.2.2.2.1 i)) (fun i g => ∀ t, t < i → g t = S.1.2.2.2.2.2.1 t) 4 (by
      intro i g hi I t ht
      show va_up g i (S.1.2.2.2.2.2.1 i) t = S.1.2.2.2.2.2.1 t
      unfold va_up
      by_cases e : t = i
      · rw [if_pos e, e]
      · rw [if_neg e]
        exact I t (by omega)) 4 0 kx (by omega) (fun t h => by omega)
theorem q_image (S : CS) (hx : ∀ t, t < 4 → ∀ ad : Nat, S.1.2.2.2.2.2.1 t = some ad → ∃ B : TB, (ad, B) ∈ S.2.2.2.2) (post : CS → Prop) (hp : post ((S.1, (va_cpy S.1.1 S.2.1.1 0 0 74, va_cpy S.1.2.1 S.2.1.2.1 0 0 6, va_cpy S.1.2.2.1 S.2.1.2.2.1 0 0 5, va_cpy S.1.2.2.2.1 S.2.1.2.2.2.1 0 0 5, va_cpy S.1.2.2.2.2.1 S.2.1.2.2.2.2.1 0 0 50, (upf (fun i g => va_up g i (S.1.2.2.2.2.2.1 i)) 4 0 S.2.1.2.2.2.2.2.1), S.1.2.2.2.2.2.2.1, S.1.2.2.2.2.2.2.2.1, va_cpy S.1.2.2.2.2.2.2.2.2.1 S.2.1.2.2.2.2.2.2.2.2.1 0 0 30, va_cpy S.1.2.2.2.2.2.2.2.2.2.1 S.2.1.2.2.2.2.2.2.2.2.2.1 0 0 8, S.1.2.2.2.2.2.2.2.2.2.2.1, va_cpy S.1.2.2.2.2.2.2.2.2.2.2.2.1 S.2.1.2.2.2.2.2.2.2.2.2.2.2.1 0 0 16, va_cpy S.1.2.2.2.2.2.2.2.2.2.2.2.2.1 S.2.1.2.2.2.2.2.2.2.2.2.2.2.2.1 0 0 5, va_cpy S.1.2.2.2.2.2.2.2.2.2.2.2.2.2.1 S.2.1.2.2.2.2.2.2.2.2.2.2.2.2.2.1 0 0 8, S.1.2.2.2.2.2.2.2.2.2.2.2.2.2.2.1, va_cpy S.1.2.2.2.2.2.2.2.2.2.2.2.2.2.2.2.1 S.2.1.2.2.2.2.2.2.2.2.2.2.2.2.2.2.2.1 0 0 2220, S.1.2.2.2.2.2.2.2.2.2.2.2.2.2.2.2.2.1, S.1.2.2.2.2.2.2.2.2.2.2.2.2.2.2.2.2.2), S.2.2) : CS)) : wC_X0_becomes_k_city S post := by
  unfold wC_X0_becomes_k_city wC_X8_becomes_k_csteps
  intro S0 e0
  simp only [cx_set_k_now, cx_c_now, cx_k_now] at e0
  rw [cpW _ (by decide)] at e0
  subst e0
  intro S1 e1
  simp only [cx_set_ks_rows, cx_cs_rows, cx_ks_rows] at e1
  rw [cpW _ (by decide)] at e1
  subst e1
  intro S2 e2
  simp only [cx_set_ks_first, cx_cs_first, cx_ks_first] at e2
  subst e2
  intro S3 e3
  simp only [cx_set_ks_count, cx_cs_count, cx_ks_count] at e3
  subst e3
  intro S4 e4
  simp only [cx_set_k_kinds, cx_c_kinds, cx_k_kinds] at e4
  rw [cpW _ (by decide)] at e4
  subst e4
  intro S5 e5
  simp only [cx_set_k_skills, cx_c_skills, cx_k_skills] at e5
  rw [cpW _ (by decide)] at e5
  subst e5
  intro S6 e6
  simp only [cx_set_k_ages, cx_c_ages, cx_k_ages] at e6
  rw [cpW _ (by decide)] at e6
  subst e6
  intro S7 e7
  simp only [cx_set_k_turns, cx_c_turns, cx_k_turns] at e7
  rw [cpW _ (by decide)] at e7
  subst e7
  exact q_image_68 S hx post _ hp
theorem m_image (S : MS) : ∃ b : Nat → Int32, (∀ j, j < 2454 → b j = ms_a S j) ∧ rv (wM_copy_a_image S) (ms_set_image S b) := by
  refine ⟨upf (fun i g => upd g i (ms_a S i)) 2454 0 (ms_image S), ?_, ?_⟩
  · exact upf_I (fun i g => upd g i (ms_a S i)) (fun i g => ∀ j, j < i → g j = ms_a S j) 2454 (by
      intro i g hi I j hj
      show upd g i (ms_a S i) j = ms_a S j
      by_cases e : j = i
      · rw [e, upd_eq]
      · rw [upd_ne _ _ e]
        exact I j (by omega)) 2454 0 _ (by omega) (fun j h => by omega)
  · intro post hp
    refine ⟨2455, up_loop (fun n g i => wM_copy_a_image_2 post n i (ms_set_image S g)) (fun i g => upd g i (ms_a S i)) (fun g => post (ms_set_image S g)) 2454 ?_ ?_ (ms_image S) hp⟩
    · intro n g q
      show wM_copy_a_image_2 post (n + 1) (nI 2454) (ms_set_image S g)
      rw [wM_copy_a_image_2]
      exact p_yes (by decide) q
    · intro n i g hi q
      show wM_copy_a_image_2 post (n + 1) (nI i) (ms_set_image S g)
      rw [wM_copy_a_image_2, nI_clamp (by omega), nI_1]
      have v : vp_in (nI i) 2454 := vp_in_nI hi (by decide)
      refine p_no (nI_ge (b := 2454) hi (by decide)) ⟨v, v, ?_⟩
      intro S2 e2
      subst e2
      exact q
theorem sim_image {cs : CS} {ms : MS} (R : Rel cs ms) : ∃ (r : Int32) (cs' : CS) (ms' : MS), rt (wC_X11_image cs) r cs' ∧ rt (wM_image ms) r ms' ∧ Rel cs' ms' := by
  obtain ⟨x1, x2, x3, x4, x5⟩ := R.1.2.2.2.1
  obtain ⟨b, hb, hM⟩ := m_image ms
  obtain ⟨kx, ekx⟩ : ∃ kx, kx = (upf (fun i g => va_up g i (cs.1.2.2.2.2.2.1 i)) 4 0 cs.2.1.2.2.2.2.2.1) := ⟨_, rfl⟩
  have hk : ∀ t, t < 4 → kx t = cs.1.2.2.2.2.2.1 t := by
    rw [ekx]
    exact kx_image cs _
  have hRC : RC (va_cpy cs.1.1 cs.2.1.1 0 0 74, va_cpy cs.1.2.1 cs.2.1.2.1 0 0 6, va_cpy cs.1.2.2.1 cs.2.1.2.2.1 0 0 5, va_cpy cs.1.2.2.2.1 cs.2.1.2.2.2.1 0 0 5, va_cpy cs.1.2.2.2.2.1 cs.2.1.2.2.2.2.1 0 0 50, kx, cs.1.2.2.2.2.2.2.1, cs.1.2.2.2.2.2.2.2.1, va_cpy cs.1.2.2.2.2.2.2.2.2.1 cs.2.1.2.2.2.2.2.2.2.2.1 0 0 30, va_cpy cs.1.2.2.2.2.2.2.2.2.2.1 cs.2.1.2.2.2.2.2.2.2.2.2.1 0 0 8, cs.1.2.2.2.2.2.2.2.2.2.2.1, va_cpy cs.1.2.2.2.2.2.2.2.2.2.2.2.1 cs.2.1.2.2.2.2.2.2.2.2.2.2.2.1 0 0 16, va_cpy cs.1.2.2.2.2.2.2.2.2.2.2.2.2.1 cs.2.1.2.2.2.2.2.2.2.2.2.2.2.2.1 0 0 5, va_cpy cs.1.2.2.2.2.2.2.2.2.2.2.2.2.2.1 cs.2.1.2.2.2.2.2.2.2.2.2.2.2.2.2.1 0 0 8, cs.1.2.2.2.2.2.2.2.2.2.2.2.2.2.2.1, va_cpy cs.1.2.2.2.2.2.2.2.2.2.2.2.2.2.2.2.1 cs.2.1.2.2.2.2.2.2.2.2.2.2.2.2.2.2.2.1 0 0 2220, cs.1.2.2.2.2.2.2.2.2.2.2.2.2.2.2.2.2.1, cs.1.2.2.2.2.2.2.2.2.2.2.2.2.2.2.2.2.2) b := by
    refine RC_ext R.1.1 ?_ ?_ ?_ ?_ ?_ ?_ hb
    · intro j hj
      exact cpW_at _ _ hj
    · intro i h1 h2
      refine oC_ext (j := 0) ?_ ?_ ?_ ?_ ?_ ?_ ?_ ?_ ?_ ?_ ?_ ?_ i h1 h2 (by omega)
      · intro h hh _
        simp only [cc_kinds]
        exact cpW_at _ _ hh
      · intro h hh _
        simp only [cc_skills]
        exact cpW_at _ _ hh
      · intro h hh _
        simp only [cc_ages]
        exact cpW_at _ _ hh
      · intro h hh _
        simp only [cc_turns]
        exact cpW_at _ _ hh
      · intro h hh _
        simp only [cc_costs]
        exact cpW_at _ _ hh
      · intro h hh _
        simp only [cc_worths]
        exact cpW_at _ _ hh
      · intro h hh _
        simp only [cc_aheads]
        exact cpW_at _ _ hh
      · intro _
        simp only [cc_textCount]
      · intro _
        simp only [cc_ruling]
      · intro _
        simp only [cc_trialCount]
      · intro _
        simp only [cc_grownCount]
      · intro _
        simp only [cc_count]
    · intro j hj
      simp only [cc_trials]
      exact cpW_at _ _ hj
    · intro j hj
      simp only [cc_growns]
      exact cpW_at _ _ hj
    · intro j hj
      simp only [cc_rows]
      exact cpW_at _ _ hj
    · simp only [cc_first]
  have hRel : Rel ((cs.1, (va_cpy cs.1.1 cs.2.1.1 0 0 74, va_cpy cs.1.2.1 cs.2.1.2.1 0 0 6, va_cpy cs.1.2.2.1 cs.2.1.2.2.1 0 0 5, va_cpy cs.1.2.2.2.1 cs.2.1.2.2.2.1 0 0 5, va_cpy cs.1.2.2.2.2.1 cs.2.1.2.2.2.2.1 0 0 50, kx, cs.1.2.2.2.2.2.2.1, cs.1.2.2.2.2.2.2.2.1, va_cpy cs.1.2.2.2.2.2.2.2.2.1 cs.2.1.2.2.2.2.2.2.2.2.1 0 0 30, va_cpy cs.1.2.2.2.2.2.2.2.2.2.1 cs.2.1.2.2.2.2.2.2.2.2.2.1 0 0 8, cs.1.2.2.2.2.2.2.2.2.2.2.1, va_cpy cs.1.2.2.2.2.2.2.2.2.2.2.2.1 cs.2.1.2.2.2.2.2.2.2.2.2.2.2.1 0 0 16, va_cpy cs.1.2.2.2.2.2.2.2.2.2.2.2.2.1 cs.2.1.2.2.2.2.2.2.2.2.2.2.2.2.1 0 0 5, va_cpy cs.1.2.2.2.2.2.2.2.2.2.2.2.2.2.1 cs.2.1.2.2.2.2.2.2.2.2.2.2.2.2.2.1 0 0 8, cs.1.2.2.2.2.2.2.2.2.2.2.2.2.2.2.1, va_cpy cs.1.2.2.2.2.2.2.2.2.2.2.2.2.2.2.2.1 cs.2.1.2.2.2.2.2.2.2.2.2.2.2.2.2.2.2.1 0 0 2220, cs.1.2.2.2.2.2.2.2.2.2.2.2.2.2.2.2.2.1, cs.1.2.2.2.2.2.2.2.2.2.2.2.2.2.2.2.2.2), cs.2.2) : CS) (ms_set_image ms b) := by
    refine ⟨⟨R.1.1, hRC, Top_ext R.2 hb, ?_, R.1.2.2.2.2⟩, R.2⟩
    show RX cs.2.2.2.2 (cc_texts cs.1) (cc_textCount cs.1) kx (cc_textCount cs.1) (ms_texts ms)
    refine ⟨x1, Int32.le_refl _, fun t ht _ => hk t ht, x4, ?_⟩
    intro t ht ad e
    rw [hk t ht] at e
    exact x4 t ht ad e
  have hC : ∀ post : CS → Prop, post ((cs.1, (va_cpy cs.1.1 cs.2.1.1 0 0 74, va_cpy cs.1.2.1 cs.2.1.2.1 0 0 6, va_cpy cs.1.2.2.1 cs.2.1.2.2.1 0 0 5, va_cpy cs.1.2.2.2.1 cs.2.1.2.2.2.1 0 0 5, va_cpy cs.1.2.2.2.2.1 cs.2.1.2.2.2.2.1 0 0 50, kx, cs.1.2.2.2.2.2.2.1, cs.1.2.2.2.2.2.2.2.1, va_cpy cs.1.2.2.2.2.2.2.2.2.1 cs.2.1.2.2.2.2.2.2.2.2.1 0 0 30, va_cpy cs.1.2.2.2.2.2.2.2.2.2.1 cs.2.1.2.2.2.2.2.2.2.2.2.1 0 0 8, cs.1.2.2.2.2.2.2.2.2.2.2.1, va_cpy cs.1.2.2.2.2.2.2.2.2.2.2.2.1 cs.2.1.2.2.2.2.2.2.2.2.2.2.2.1 0 0 16, va_cpy cs.1.2.2.2.2.2.2.2.2.2.2.2.2.1 cs.2.1.2.2.2.2.2.2.2.2.2.2.2.2.1 0 0 5, va_cpy cs.1.2.2.2.2.2.2.2.2.2.2.2.2.2.1 cs.2.1.2.2.2.2.2.2.2.2.2.2.2.2.2.1 0 0 8, cs.1.2.2.2.2.2.2.2.2.2.2.2.2.2.2.1, va_cpy cs.1.2.2.2.2.2.2.2.2.2.2.2.2.2.2.2.1 cs.2.1.2.2.2.2.2.2.2.2.2.2.2.2.2.2.2.1 0 0 2220, cs.1.2.2.2.2.2.2.2.2.2.2.2.2.2.2.2.2.1, cs.1.2.2.2.2.2.2.2.2.2.2.2.2.2.2.2.2.2), cs.2.2) : CS) → wC_X0_becomes_k_city cs post := by
    intro post hp
    rw [ekx] at hp
    exact q_image cs x4 post hp
  refine ⟨ms_a ms 7, ((cs.1, (va_cpy cs.1.1 cs.2.1.1 0 0 74, va_cpy cs.1.2.1 cs.2.1.2.1 0 0 6, va_cpy cs.1.2.2.1 cs.2.1.2.2.1 0 0 5, va_cpy cs.1.2.2.2.1 cs.2.1.2.2.2.1 0 0 5, va_cpy cs.1.2.2.2.2.1 cs.2.1.2.2.2.2.1 0 0 50, kx, cs.1.2.2.2.2.2.2.1, cs.1.2.2.2.2.2.2.2.1, va_cpy cs.1.2.2.2.2.2.2.2.2.1 cs.2.1.2.2.2.2.2.2.2.2.1 0 0 30, va_cpy cs.1.2.2.2.2.2.2.2.2.2.1 cs.2.1.2.2.2.2.2.2.2.2.2.1 0 0 8, cs.1.2.2.2.2.2.2.2.2.2.2.1, va_cpy cs.1.2.2.2.2.2.2.2.2.2.2.2.1 cs.2.1.2.2.2.2.2.2.2.2.2.2.2.1 0 0 16, va_cpy cs.1.2.2.2.2.2.2.2.2.2.2.2.2.1 cs.2.1.2.2.2.2.2.2.2.2.2.2.2.2.1 0 0 5, va_cpy cs.1.2.2.2.2.2.2.2.2.2.2.2.2.2.1 cs.2.1.2.2.2.2.2.2.2.2.2.2.2.2.2.1 0 0 8, cs.1.2.2.2.2.2.2.2.2.2.2.2.2.2.2.1, va_cpy cs.1.2.2.2.2.2.2.2.2.2.2.2.2.2.2.2.1 cs.2.1.2.2.2.2.2.2.2.2.2.2.2.2.2.2.2.1 0 0 2220, cs.1.2.2.2.2.2.2.2.2.2.2.2.2.2.2.2.2.1, cs.1.2.2.2.2.2.2.2.2.2.2.2.2.2.2.2.2.2), cs.2.2) : CS), ms_set_image ms b, ?_, ?_, hRel⟩
  · intro post hp
    unfold wC_X11_image
    refine hC _ ?_
    rw [q_today]
    have e : cx_c_now ((cs.1, (va_cpy cs.1.1 cs.2.1.1 0 0 74, va_cpy cs.1.2.1 cs.2.1.2.1 0 0 6, va_cpy cs.1.2.2.1 cs.2.1.2.2.1 0 0 5, va_cpy cs.1.2.2.2.1 cs.2.1.2.2.2.1 0 0 5, va_cpy cs.1.2.2.2.2.1 cs.2.1.2.2.2.2.1 0 0 50, kx, cs.1.2.2.2.2.2.2.1, cs.1.2.2.2.2.2.2.2.1, va_cpy cs.1.2.2.2.2.2.2.2.2.1 cs.2.1.2.2.2.2.2.2.2.2.1 0 0 30, va_cpy cs.1.2.2.2.2.2.2.2.2.2.1 cs.2.1.2.2.2.2.2.2.2.2.2.1 0 0 8, cs.1.2.2.2.2.2.2.2.2.2.2.1, va_cpy cs.1.2.2.2.2.2.2.2.2.2.2.2.1 cs.2.1.2.2.2.2.2.2.2.2.2.2.2.1 0 0 16, va_cpy cs.1.2.2.2.2.2.2.2.2.2.2.2.2.1 cs.2.1.2.2.2.2.2.2.2.2.2.2.2.2.1 0 0 5, va_cpy cs.1.2.2.2.2.2.2.2.2.2.2.2.2.2.1 cs.2.1.2.2.2.2.2.2.2.2.2.2.2.2.2.1 0 0 8, cs.1.2.2.2.2.2.2.2.2.2.2.2.2.2.2.1, va_cpy cs.1.2.2.2.2.2.2.2.2.2.2.2.2.2.2.2.1 cs.2.1.2.2.2.2.2.2.2.2.2.2.2.2.2.2.2.1 0 0 2220, cs.1.2.2.2.2.2.2.2.2.2.2.2.2.2.2.2.2.1, cs.1.2.2.2.2.2.2.2.2.2.2.2.2.2.2.2.2.2), cs.2.2) : CS) 39 = ms_a ms 7 := rn_day R.1.1.1
    rw [e]
    exact hp
  · intro post hp
    unfold wM_image
    refine hM _ ?_
    have e : ms_a (ms_set_image ms b) 7 = ms_a ms 7 := rfl
    rw [e]
    exact hp
theorem q_back_104 (S : CS) (kx : Nat → Option Nat) (post : CS → Prop) (hp : post (((va_cpy S.2.1.1 S.1.1 0 0 74, va_cpy S.2.1.2.1 S.1.2.1 0 0 6, va_cpy S.2.1.2.2.1 S.1.2.2.1 0 0 5, va_cpy S.2.1.2.2.2.1 S.1.2.2.2.1 0 0 5, va_cpy S.2.1.2.2.2.2.1 S.1.2.2.2.2.1 0 0 50, kx, S.2.1.2.2.2.2.2.2.1, S.2.1.2.2.2.2.2.2.2.1, va_cpy S.2.1.2.2.2.2.2.2.2.2.1 S.1.2.2.2.2.2.2.2.2.1 0 0 30, va_cpy S.2.1.2.2.2.2.2.2.2.2.2.1 S.1.2.2.2.2.2.2.2.2.2.1 0 0 8, S.2.1.2.2.2.2.2.2.2.2.2.2.1, va_cpy S.2.1.2.2.2.2.2.2.2.2.2.2.2.1 S.1.2.2.2.2.2.2.2.2.2.2.2.1 0 0 16, va_cpy S.2.1.2.2.2.2.2.2.2.2.2.2.2.2.1 S.1.2.2.2.2.2.2.2.2.2.2.2.2.1 0 0 5, va_cpy S.2.1.2.2.2.2.2.2.2.2.2.2.2.2.2.1 S.1.2.2.2.2.2.2.2.2.2.2.2.2.2.1 0 0 8, S.2.1.2.2.2.2.2.2.2.2.2.2.2.2.2.2.1, va_cpy S.2.1.2.2.2.2.2.2.2.2.2.2.2.2.2.2.2.1 S.1.2.2.2.2.2.2.2.2.2.2.2.2.2.2.2.1 0 0 2220, S.2.1.2.2.2.2.2.2.2.2.2.2.2.2.2.2.2.2.1, S.2.1.2.2.2.2.2.2.2.2.2.2.2.2.2.2.2.2.2), S.2) : CS)) : wC_X0_becomes_kept_104 post (((va_cpy S.2.1.1 S.1.1 0 0 74, va_cpy S.2.1.2.1 S.1.2.1 0 0 6, va_cpy S.2.1.2.2.1 S.1.2.2.1 0 0 5, va_cpy S.2.1.2.2.2.1 S.1.2.2.2.1 0 0 5, va_cpy S.2.1.2.2.2.2.1 S.1.2.2.2.2.1 0 0 50, kx, S.1.2.2.2.2.2.2.1, S.1.2.2.2.2.2.2.2.1, S.1.2.2.2.2.2.2.2.2.1, S.1.2.2.2.2.2.2.2.2.2.1, S.1.2.2.2.2.2.2.2.2.2.2.1, S.1.2.2.2.2.2.2.2.2.2.2.2.1, S.1.2.2.2.2.2.2.2.2.2.2.2.2.1, S.1.2.2.2.2.2.2.2.2.2.2.2.2.2.1, S.1.2.2.2.2.2.2.2.2.2.2.2.2.2.2.1, va_cpy S.2.1.2.2.2.2.2.2.2.2.2.2.2.2.2.2.2.1 S.1.2.2.2.2.2.2.2.2.2.2.2.2.2.2.2.1 0 0 2220, S.2.1.2.2.2.2.2.2.2.2.2.2.2.2.2.2.2.2.1, S.2.1.2.2.2.2.2.2.2.2.2.2.2.2.2.2.2.2.2), S.2) : CS) := by
  unfold wC_X0_becomes_kept_104
  intro S0 e0
  simp only [cx_set_c_textCount, cx_k_textCount, cx_c_textCount] at e0
  subst e0
  intro S1 e1
  simp only [cx_set_c_ruling, cx_k_ruling, cx_c_ruling] at e1
  subst e1
  intro S2 e2
  simp only [cx_set_c_costs, cx_k_costs, cx_c_costs] at e2
  rw [cpW _ (by decide)] at e2
  subst e2
  intro S3 e3
  simp only [cx_set_c_trials, cx_k_trials, cx_c_trials] at e3
  rw [cpW _ (by decide)] at e3
  subst e3
  intro S4 e4
  simp only [cx_set_c_trialCount, cx_k_trialCount, cx_c_trialCount] at e4
  subst e4
  intro S5 e5
  simp only [cx_set_c_worths, cx_k_worths, cx_c_worths] at e5
  rw [cpW _ (by decide)] at e5
  subst e5
  intro S6 e6
  simp only [cx_set_c_aheads, cx_k_aheads, cx_c_aheads] at e6
  rw [cpW _ (by decide)] at e6
  subst e6
  intro S7 e7
  simp only [cx_set_c_growns, cx_k_growns, cx_c_growns] at e7
  rw [cpW _ (by decide)] at e7
  subst e7
  intro S8 e8
  simp only [cx_set_c_grownCount, cx_k_grownCount, cx_c_grownCount] at e8
  subst e8
  exact hp
theorem q_back_68 (S : CS) (hx : ∀ t, t < 4 → ∀ ad : Nat, S.2.1.2.2.2.2.2.1 t = some ad → ∃ B : TB, (ad, B) ∈ S.2.2.2.2) (post : CS → Prop) (kx : Nat → Option Nat) (hp : post (((va_cpy S.2.1.1 S.1.1 0 0 74, va_cpy S.2.1.2.1 S.1.2.1 0 0 6, va_cpy S.2.1.2.2.1 S.1.2.2.1 0 0 5, va_cpy S.2.1.2.2.2.1 S.1.2.2.2.1 0 0 5, va_cpy S.2.1.2.2.2.2.1 S.1.2.2.2.2.1 0 0 50, (upf (fun i g => va_up g i (S.2.1.2.2.2.2.2.1 i)) 4 0 kx), S.2.1.2.2.2.2.2.2.1, S.2.1.2.2.2.2.2.2.2.1, va_cpy S.2.1.2.2.2.2.2.2.2.2.1 S.1.2.2.2.2.2.2.2.2.1 0 0 30, va_cpy S.2.1.2.2.2.2.2.2.2.2.2.1 S.1.2.2.2.2.2.2.2.2.2.1 0 0 8, S.2.1.2.2.2.2.2.2.2.2.2.2.1, va_cpy S.2.1.2.2.2.2.2.2.2.2.2.2.2.1 S.1.2.2.2.2.2.2.2.2.2.2.2.1 0 0 16, va_cpy S.2.1.2.2.2.2.2.2.2.2.2.2.2.2.1 S.1.2.2.2.2.2.2.2.2.2.2.2.2.1 0 0 5, va_cpy S.2.1.2.2.2.2.2.2.2.2.2.2.2.2.2.1 S.1.2.2.2.2.2.2.2.2.2.2.2.2.2.1 0 0 8, S.2.1.2.2.2.2.2.2.2.2.2.2.2.2.2.2.1, va_cpy S.2.1.2.2.2.2.2.2.2.2.2.2.2.2.2.2.2.1 S.1.2.2.2.2.2.2.2.2.2.2.2.2.2.2.2.1 0 0 2220, S.2.1.2.2.2.2.2.2.2.2.2.2.2.2.2.2.2.2.1, S.2.1.2.2.2.2.2.2.2.2.2.2.2.2.2.2.2.2.2), S.2) : CS)) : ∃ k : Nat, wC_X0_becomes_kept_68 post k 0 (((va_cpy S.2.1.1 S.1.1 0 0 74, va_cpy S.2.1.2.1 S.1.2.1 0 0 6, va_cpy S.2.1.2.2.1 S.1.2.2.1 0 0 5, va_cpy S.2.1.2.2.2.1 S.1.2.2.2.1 0 0 5, va_cpy S.2.1.2.2.2.2.1 S.1.2.2.2.2.1 0 0 50, kx, S.1.2.2.2.2.2.2.1, S.1.2.2.2.2.2.2.2.1, S.1.2.2.2.2.2.2.2.2.1, S.1.2.2.2.2.2.2.2.2.2.1, S.1.2.2.2.2.2.2.2.2.2.2.1, S.1.2.2.2.2.2.2.2.2.2.2.2.1, S.1.2.2.2.2.2.2.2.2.2.2.2.2.1, S.1.2.2.2.2.2.2.2.2.2.2.2.2.2.1, S.1.2.2.2.2.2.2.2.2.2.2.2.2.2.2.1, va_cpy S.2.1.2.2.2.2.2.2.2.2.2.2.2.2.2.2.2.1 S.1.2.2.2.2.2.2.2.2.2.2.2.2.2.2.2.1 0 0 2220, S.2.1.2.2.2.2.2.2.2.2.2.2.2.2.2.2.2.2.1, S.2.1.2.2.2.2.2.2.2.2.2.2.2.2.2.2.2.2.2), S.2) : CS) := by
  refine ⟨5, up_loop (fun n g i => wC_X0_becomes_kept_68 post n i (((va_cpy S.2.1.1 S.1.1 0 0 74, va_cpy S.2.1.2.1 S.1.2.1 0 0 6, va_cpy S.2.1.2.2.1 S.1.2.2.1 0 0 5, va_cpy S.2.1.2.2.2.1 S.1.2.2.2.1 0 0 5, va_cpy S.2.1.2.2.2.2.1 S.1.2.2.2.2.1 0 0 50, g, S.1.2.2.2.2.2.2.1, S.1.2.2.2.2.2.2.2.1, S.1.2.2.2.2.2.2.2.2.1, S.1.2.2.2.2.2.2.2.2.2.1, S.1.2.2.2.2.2.2.2.2.2.2.1, S.1.2.2.2.2.2.2.2.2.2.2.2.1, S.1.2.2.2.2.2.2.2.2.2.2.2.2.1, S.1.2.2.2.2.2.2.2.2.2.2.2.2.2.1, S.1.2.2.2.2.2.2.2.2.2.2.2.2.2.2.1, va_cpy S.2.1.2.2.2.2.2.2.2.2.2.2.2.2.2.2.2.1 S.1.2.2.2.2.2.2.2.2.2.2.2.2.2.2.2.1 0 0 2220, S.2.1.2.2.2.2.2.2.2.2.2.2.2.2.2.2.2.2.1, S.2.1.2.2.2.2.2.2.2.2.2.2.2.2.2.2.2.2.2), S.2) : CS)) (fun i g => va_up g i (S.2.1.2.2.2.2.2.1 i)) (fun g => post (((va_cpy S.2.1.1 S.1.1 0 0 74, va_cpy S.2.1.2.1 S.1.2.1 0 0 6, va_cpy S.2.1.2.2.1 S.1.2.2.1 0 0 5, va_cpy S.2.1.2.2.2.1 S.1.2.2.2.1 0 0 5, va_cpy S.2.1.2.2.2.2.1 S.1.2.2.2.2.1 0 0 50, g, S.2.1.2.2.2.2.2.2.1, S.2.1.2.2.2.2.2.2.2.1, va_cpy S.2.1.2.2.2.2.2.2.2.2.1 S.1.2.2.2.2.2.2.2.2.1 0 0 30, va_cpy S.2.1.2.2.2.2.2.2.2.2.2.1 S.1.2.2.2.2.2.2.2.2.2.1 0 0 8, S.2.1.2.2.2.2.2.2.2.2.2.2.1, va_cpy S.2.1.2.2.2.2.2.2.2.2.2.2.2.1 S.1.2.2.2.2.2.2.2.2.2.2.2.1 0 0 16, va_cpy S.2.1.2.2.2.2.2.2.2.2.2.2.2.2.1 S.1.2.2.2.2.2.2.2.2.2.2.2.2.1 0 0 5, va_cpy S.2.1.2.2.2.2.2.2.2.2.2.2.2.2.2.1 S.1.2.2.2.2.2.2.2.2.2.2.2.2.2.1 0 0 8, S.2.1.2.2.2.2.2.2.2.2.2.2.2.2.2.2.1, va_cpy S.2.1.2.2.2.2.2.2.2.2.2.2.2.2.2.2.2.1 S.1.2.2.2.2.2.2.2.2.2.2.2.2.2.2.2.1 0 0 2220, S.2.1.2.2.2.2.2.2.2.2.2.2.2.2.2.2.2.2.1, S.2.1.2.2.2.2.2.2.2.2.2.2.2.2.2.2.2.2.2), S.2) : CS)) 4 ?_ ?_ kx hp⟩
  · intro n g q
    show wC_X0_becomes_kept_68 post (n + 1) (nI 4) (((va_cpy S.2.1.1 S.1.1 0 0 74, va_cpy S.2.1.2.1 S.1.2.1 0 0 6, va_cpy S.2.1.2.2.1 S.1.2.2.1 0 0 5, va_cpy S.2.1.2.2.2.1 S.1.2.2.2.1 0 0 5, va_cpy S.2.1.2.2.2.2.1 S.1.2.2.2.2.1 0 0 50, g, S.1.2.2.2.2.2.2.1, S.1.2.2.2.2.2.2.2.1, S.1.2.2.2.2.2.2.2.2.1, S.1.2.2.2.2.2.2.2.2.2.1, S.1.2.2.2.2.2.2.2.2.2.2.1, S.1.2.2.2.2.2.2.2.2.2.2.2.1, S.1.2.2.2.2.2.2.2.2.2.2.2.2.1, S.1.2.2.2.2.2.2.2.2.2.2.2.2.2.1, S.1.2.2.2.2.2.2.2.2.2.2.2.2.2.2.1, va_cpy S.2.1.2.2.2.2.2.2.2.2.2.2.2.2.2.2.2.1 S.1.2.2.2.2.2.2.2.2.2.2.2.2.2.2.2.1 0 0 2220, S.2.1.2.2.2.2.2.2.2.2.2.2.2.2.2.2.2.2.1, S.2.1.2.2.2.2.2.2.2.2.2.2.2.2.2.2.2.2.2), S.2) : CS)
    rw [wC_X0_becomes_kept_68]
    exact p_yes (by decide) (q_back_104 S g post q)
  · intro n i g hi q
    show wC_X0_becomes_kept_68 post (n + 1) (nI i) (((va_cpy S.2.1.1 S.1.1 0 0 74, va_cpy S.2.1.2.1 S.1.2.1 0 0 6, va_cpy S.2.1.2.2.1 S.1.2.2.1 0 0 5, va_cpy S.2.1.2.2.2.1 S.1.2.2.2.1 0 0 5, va_cpy S.2.1.2.2.2.2.1 S.1.2.2.2.2.1 0 0 50, g, S.1.2.2.2.2.2.2.1, S.1.2.2.2.2.2.2.2.1, S.1.2.2.2.2.2.2.2.2.1, S.1.2.2.2.2.2.2.2.2.2.1, S.1.2.2.2.2.2.2.2.2.2.2.1, S.1.2.2.2.2.2.2.2.2.2.2.2.1, S.1.2.2.2.2.2.2.2.2.2.2.2.2.1, S.1.2.2.2.2.2.2.2.2.2.2.2.2.2.1, S.1.2.2.2.2.2.2.2.2.2.2.2.2.2.2.1, va_cpy S.2.1.2.2.2.2.2.2.2.2.2.2.2.2.2.2.2.1 S.1.2.2.2.2.2.2.2.2.2.2.2.2.2.2.2.1 0 0 2220, S.2.1.2.2.2.2.2.2.2.2.2.2.2.2.2.2.2.2.1, S.2.1.2.2.2.2.2.2.2.2.2.2.2.2.2.2.2.2.2), S.2) : CS)
    rw [wC_X0_becomes_kept_68]
    have v : vp_in (nI i) 4 := vp_in_nI hi (by decide)
    have nl : ¬ (4 : Int32) ≤ nI i := nI_ge (b := 4) hi (by decide)
    refine p_no nl (p_no nl ⟨v, v, ?_, ?_⟩)
    · intro ad ead
      rw [nI_clamp (by omega)] at ead
      exact hx i hi ad ead
    · intro S3 e3
      rw [nI_clamp (by omega), nI_1] at *
      simp only [cx_set_c_texts, cx_k_texts, cx_c_texts] at e3
      subst e3
      exact q
theorem kx_back (S : CS) (kx : Nat → Option Nat) : ∀ t, t < 4 → (upf (fun i g => va_up g i (S.2.1.2.2.2.2.2.1 i)) 4 0 kx) t = S.2.1.2.2.2.2.2.1 t :=
  upf_I (fun i g => va_up g i (S.2.1.2.2.2.2.2.1 i)) (fun i g => ∀ t, t < i → g t = S.2.1.2.2.2.2.2.1 t) 4 (by
      intro i g hi I t ht
      show va_up g i (S.2.1.2.2.2.2.2.1 i) t = S.2.1.2.2.2.2.2.1 t
      unfold va_up
      by_cases e : t = i
      · rw [if_pos e, e]
      · rw [if_neg e]
        exact I t (by omega)) 4 0 kx (by omega) (fun t h => by omega)
theorem q_back (S : CS) (hx : ∀ t, t < 4 → ∀ ad : Nat, S.2.1.2.2.2.2.2.1 t = some ad → ∃ B : TB, (ad, B) ∈ S.2.2.2.2) (post : CS → Prop) (hp : post (((va_cpy S.2.1.1 S.1.1 0 0 74, va_cpy S.2.1.2.1 S.1.2.1 0 0 6, va_cpy S.2.1.2.2.1 S.1.2.2.1 0 0 5, va_cpy S.2.1.2.2.2.1 S.1.2.2.2.1 0 0 5, va_cpy S.2.1.2.2.2.2.1 S.1.2.2.2.2.1 0 0 50, (upf (fun i g => va_up g i (S.2.1.2.2.2.2.2.1 i)) 4 0 S.1.2.2.2.2.2.1), S.2.1.2.2.2.2.2.2.1, S.2.1.2.2.2.2.2.2.2.1, va_cpy S.2.1.2.2.2.2.2.2.2.2.1 S.1.2.2.2.2.2.2.2.2.1 0 0 30, va_cpy S.2.1.2.2.2.2.2.2.2.2.2.1 S.1.2.2.2.2.2.2.2.2.2.1 0 0 8, S.2.1.2.2.2.2.2.2.2.2.2.2.1, va_cpy S.2.1.2.2.2.2.2.2.2.2.2.2.2.1 S.1.2.2.2.2.2.2.2.2.2.2.2.1 0 0 16, va_cpy S.2.1.2.2.2.2.2.2.2.2.2.2.2.2.1 S.1.2.2.2.2.2.2.2.2.2.2.2.2.1 0 0 5, va_cpy S.2.1.2.2.2.2.2.2.2.2.2.2.2.2.2.1 S.1.2.2.2.2.2.2.2.2.2.2.2.2.2.1 0 0 8, S.2.1.2.2.2.2.2.2.2.2.2.2.2.2.2.2.1, va_cpy S.2.1.2.2.2.2.2.2.2.2.2.2.2.2.2.2.2.1 S.1.2.2.2.2.2.2.2.2.2.2.2.2.2.2.2.1 0 0 2220, S.2.1.2.2.2.2.2.2.2.2.2.2.2.2.2.2.2.2.1, S.2.1.2.2.2.2.2.2.2.2.2.2.2.2.2.2.2.2.2), S.2) : CS)) : wC_X0_becomes_kept S post := by
  unfold wC_X0_becomes_kept wC_X8_becomes_ksteps
  intro S0 e0
  simp only [cx_set_c_now, cx_k_now, cx_c_now] at e0
  rw [cpW _ (by decide)] at e0
  subst e0
  intro S1 e1
  simp only [cx_set_cs_rows, cx_ks_rows, cx_cs_rows] at e1
  rw [cpW _ (by decide)] at e1
  subst e1
  intro S2 e2
  simp only [cx_set_cs_first, cx_ks_first, cx_cs_first] at e2
  subst e2
  intro S3 e3
  simp only [cx_set_cs_count, cx_ks_count, cx_cs_count] at e3
  subst e3
  intro S4 e4
  simp only [cx_set_c_kinds, cx_k_kinds, cx_c_kinds] at e4
  rw [cpW _ (by decide)] at e4
  subst e4
  intro S5 e5
  simp only [cx_set_c_skills, cx_k_skills, cx_c_skills] at e5
  rw [cpW _ (by decide)] at e5
  subst e5
  intro S6 e6
  simp only [cx_set_c_ages, cx_k_ages, cx_c_ages] at e6
  rw [cpW _ (by decide)] at e6
  subst e6
  intro S7 e7
  simp only [cx_set_c_turns, cx_k_turns, cx_c_turns] at e7
  rw [cpW _ (by decide)] at e7
  subst e7
  exact q_back_68 S hx post _ hp
theorem m_back (S : MS) : ∃ b : Nat → Int32, (∀ j, j < 2454 → b j = ms_image S j) ∧ rv (wM_copy_image_a S) (ms_set_a S b) := by
  refine ⟨upf (fun i g => upd g i (ms_image S i)) 2454 0 (ms_a S), ?_, ?_⟩
  · exact upf_I (fun i g => upd g i (ms_image S i)) (fun i g => ∀ j, j < i → g j = ms_image S j) 2454 (by
      intro i g hi I j hj
      show upd g i (ms_image S i) j = ms_image S j
      by_cases e : j = i
      · rw [e, upd_eq]
      · rw [upd_ne _ _ e]
        exact I j (by omega)) 2454 0 _ (by omega) (fun j h => by omega)
  · intro post hp
    refine ⟨2455, up_loop (fun n g i => wM_copy_image_a_2 post n i (ms_set_a S g)) (fun i g => upd g i (ms_image S i)) (fun g => post (ms_set_a S g)) 2454 ?_ ?_ (ms_a S) hp⟩
    · intro n g q
      show wM_copy_image_a_2 post (n + 1) (nI 2454) (ms_set_a S g)
      rw [wM_copy_image_a_2]
      exact p_yes (by decide) q
    · intro n i g hi q
      show wM_copy_image_a_2 post (n + 1) (nI i) (ms_set_a S g)
      rw [wM_copy_image_a_2, nI_clamp (by omega), nI_1]
      have v : vp_in (nI i) 2454 := vp_in_nI hi (by decide)
      refine p_no (nI_ge (b := 2454) hi (by decide)) ⟨v, v, ?_⟩
      intro S2 e2
      subst e2
      exact q
theorem sim_back {cs : CS} {ms : MS} (R : Rel cs ms) : ∃ (r : Int32) (cs' : CS) (ms' : MS), rt (wC_X11_back cs) r cs' ∧ rt (wM_back ms) r ms' ∧ Rel cs' ms' := by
  obtain ⟨x1, x2, x3, x4, x5⟩ := R.1.2.2.2.1
  obtain ⟨b, hb, hM⟩ := m_back ms
  obtain ⟨kx, ekx⟩ : ∃ kx, kx = (upf (fun i g => va_up g i (cs.2.1.2.2.2.2.2.1 i)) 4 0 cs.1.2.2.2.2.2.1) := ⟨_, rfl⟩
  have hk : ∀ t, t < 4 → kx t = cs.2.1.2.2.2.2.2.1 t := by
    rw [ekx]
    exact kx_back cs _
  have hRC : RC (va_cpy cs.2.1.1 cs.1.1 0 0 74, va_cpy cs.2.1.2.1 cs.1.2.1 0 0 6, va_cpy cs.2.1.2.2.1 cs.1.2.2.1 0 0 5, va_cpy cs.2.1.2.2.2.1 cs.1.2.2.2.1 0 0 5, va_cpy cs.2.1.2.2.2.2.1 cs.1.2.2.2.2.1 0 0 50, kx, cs.2.1.2.2.2.2.2.2.1, cs.2.1.2.2.2.2.2.2.2.1, va_cpy cs.2.1.2.2.2.2.2.2.2.2.1 cs.1.2.2.2.2.2.2.2.2.1 0 0 30, va_cpy cs.2.1.2.2.2.2.2.2.2.2.2.1 cs.1.2.2.2.2.2.2.2.2.2.1 0 0 8, cs.2.1.2.2.2.2.2.2.2.2.2.2.1, va_cpy cs.2.1.2.2.2.2.2.2.2.2.2.2.2.1 cs.1.2.2.2.2.2.2.2.2.2.2.2.1 0 0 16, va_cpy cs.2.1.2.2.2.2.2.2.2.2.2.2.2.2.1 cs.1.2.2.2.2.2.2.2.2.2.2.2.2.1 0 0 5, va_cpy cs.2.1.2.2.2.2.2.2.2.2.2.2.2.2.2.1 cs.1.2.2.2.2.2.2.2.2.2.2.2.2.2.1 0 0 8, cs.2.1.2.2.2.2.2.2.2.2.2.2.2.2.2.2.1, va_cpy cs.2.1.2.2.2.2.2.2.2.2.2.2.2.2.2.2.2.1 cs.1.2.2.2.2.2.2.2.2.2.2.2.2.2.2.2.1 0 0 2220, cs.2.1.2.2.2.2.2.2.2.2.2.2.2.2.2.2.2.2.1, cs.2.1.2.2.2.2.2.2.2.2.2.2.2.2.2.2.2.2.2) b := by
    refine RC_ext R.1.2.1 ?_ ?_ ?_ ?_ ?_ ?_ hb
    · intro j hj
      exact cpW_at _ _ hj
    · intro i h1 h2
      refine oC_ext (j := 0) ?_ ?_ ?_ ?_ ?_ ?_ ?_ ?_ ?_ ?_ ?_ ?_ i h1 h2 (by omega)
      · intro h hh _
        simp only [cc_kinds]
        exact cpW_at _ _ hh
      · intro h hh _
        simp only [cc_skills]
        exact cpW_at _ _ hh
      · intro h hh _
        simp only [cc_ages]
        exact cpW_at _ _ hh
      · intro h hh _
        simp only [cc_turns]
        exact cpW_at _ _ hh
      · intro h hh _
        simp only [cc_costs]
        exact cpW_at _ _ hh
      · intro h hh _
        simp only [cc_worths]
        exact cpW_at _ _ hh
      · intro h hh _
        simp only [cc_aheads]
        exact cpW_at _ _ hh
      · intro _
        simp only [cc_textCount]
      · intro _
        simp only [cc_ruling]
      · intro _
        simp only [cc_trialCount]
      · intro _
        simp only [cc_grownCount]
      · intro _
        simp only [cc_count]
    · intro j hj
      simp only [cc_trials]
      exact cpW_at _ _ hj
    · intro j hj
      simp only [cc_growns]
      exact cpW_at _ _ hj
    · intro j hj
      simp only [cc_rows]
      exact cpW_at _ _ hj
    · simp only [cc_first]
  have hRel : Rel (((va_cpy cs.2.1.1 cs.1.1 0 0 74, va_cpy cs.2.1.2.1 cs.1.2.1 0 0 6, va_cpy cs.2.1.2.2.1 cs.1.2.2.1 0 0 5, va_cpy cs.2.1.2.2.2.1 cs.1.2.2.2.1 0 0 5, va_cpy cs.2.1.2.2.2.2.1 cs.1.2.2.2.2.1 0 0 50, kx, cs.2.1.2.2.2.2.2.2.1, cs.2.1.2.2.2.2.2.2.2.1, va_cpy cs.2.1.2.2.2.2.2.2.2.2.1 cs.1.2.2.2.2.2.2.2.2.1 0 0 30, va_cpy cs.2.1.2.2.2.2.2.2.2.2.2.1 cs.1.2.2.2.2.2.2.2.2.2.1 0 0 8, cs.2.1.2.2.2.2.2.2.2.2.2.2.1, va_cpy cs.2.1.2.2.2.2.2.2.2.2.2.2.2.1 cs.1.2.2.2.2.2.2.2.2.2.2.2.1 0 0 16, va_cpy cs.2.1.2.2.2.2.2.2.2.2.2.2.2.2.1 cs.1.2.2.2.2.2.2.2.2.2.2.2.2.1 0 0 5, va_cpy cs.2.1.2.2.2.2.2.2.2.2.2.2.2.2.2.1 cs.1.2.2.2.2.2.2.2.2.2.2.2.2.2.1 0 0 8, cs.2.1.2.2.2.2.2.2.2.2.2.2.2.2.2.2.1, va_cpy cs.2.1.2.2.2.2.2.2.2.2.2.2.2.2.2.2.2.1 cs.1.2.2.2.2.2.2.2.2.2.2.2.2.2.2.2.1 0 0 2220, cs.2.1.2.2.2.2.2.2.2.2.2.2.2.2.2.2.2.2.1, cs.2.1.2.2.2.2.2.2.2.2.2.2.2.2.2.2.2.2.2), cs.2) : CS) (ms_set_a ms b) := by
    refine ⟨⟨hRC, R.1.2.1, R.1.2.2.1, ?_, R.1.2.2.2.2⟩, Top_ext R.1.2.2.1 hb⟩
    show RX cs.2.2.2.2 kx (cc_textCount cs.2.1) (cc_texts cs.2.1) (cc_textCount cs.2.1) (ms_texts ms)
    refine ⟨?_, Int32.le_refl _, fun t ht _ => (hk t ht).symm, ?_, x5⟩
    · intro t ht h
      have e := hk t ht
      have e2 := x3 t ht h
      rw [e]
      have e3 : cs.2.1.2.2.2.2.2.1 t = cc_texts cs.1 t := e2
      rw [e3]
      exact x1 t ht (Int32.lt_of_lt_of_le h x2)
    · intro t ht ad e
      rw [hk t ht] at e
      exact x5 t ht ad e
  have hC : ∀ post : CS → Prop, post (((va_cpy cs.2.1.1 cs.1.1 0 0 74, va_cpy cs.2.1.2.1 cs.1.2.1 0 0 6, va_cpy cs.2.1.2.2.1 cs.1.2.2.1 0 0 5, va_cpy cs.2.1.2.2.2.1 cs.1.2.2.2.1 0 0 5, va_cpy cs.2.1.2.2.2.2.1 cs.1.2.2.2.2.1 0 0 50, kx, cs.2.1.2.2.2.2.2.2.1, cs.2.1.2.2.2.2.2.2.2.1, va_cpy cs.2.1.2.2.2.2.2.2.2.2.1 cs.1.2.2.2.2.2.2.2.2.1 0 0 30, va_cpy cs.2.1.2.2.2.2.2.2.2.2.2.1 cs.1.2.2.2.2.2.2.2.2.2.1 0 0 8, cs.2.1.2.2.2.2.2.2.2.2.2.2.1, va_cpy cs.2.1.2.2.2.2.2.2.2.2.2.2.2.1 cs.1.2.2.2.2.2.2.2.2.2.2.2.1 0 0 16, va_cpy cs.2.1.2.2.2.2.2.2.2.2.2.2.2.2.1 cs.1.2.2.2.2.2.2.2.2.2.2.2.2.1 0 0 5, va_cpy cs.2.1.2.2.2.2.2.2.2.2.2.2.2.2.2.1 cs.1.2.2.2.2.2.2.2.2.2.2.2.2.2.1 0 0 8, cs.2.1.2.2.2.2.2.2.2.2.2.2.2.2.2.2.1, va_cpy cs.2.1.2.2.2.2.2.2.2.2.2.2.2.2.2.2.2.1 cs.1.2.2.2.2.2.2.2.2.2.2.2.2.2.2.2.1 0 0 2220, cs.2.1.2.2.2.2.2.2.2.2.2.2.2.2.2.2.2.2.1, cs.2.1.2.2.2.2.2.2.2.2.2.2.2.2.2.2.2.2.2), cs.2) : CS) → wC_X0_becomes_kept cs post := by
    intro post hp
    rw [ekx] at hp
    exact q_back cs x5 post hp
  refine ⟨ms_image ms 7, (((va_cpy cs.2.1.1 cs.1.1 0 0 74, va_cpy cs.2.1.2.1 cs.1.2.1 0 0 6, va_cpy cs.2.1.2.2.1 cs.1.2.2.1 0 0 5, va_cpy cs.2.1.2.2.2.1 cs.1.2.2.2.1 0 0 5, va_cpy cs.2.1.2.2.2.2.1 cs.1.2.2.2.2.1 0 0 50, kx, cs.2.1.2.2.2.2.2.2.1, cs.2.1.2.2.2.2.2.2.2.1, va_cpy cs.2.1.2.2.2.2.2.2.2.2.1 cs.1.2.2.2.2.2.2.2.2.1 0 0 30, va_cpy cs.2.1.2.2.2.2.2.2.2.2.2.1 cs.1.2.2.2.2.2.2.2.2.2.1 0 0 8, cs.2.1.2.2.2.2.2.2.2.2.2.2.1, va_cpy cs.2.1.2.2.2.2.2.2.2.2.2.2.2.1 cs.1.2.2.2.2.2.2.2.2.2.2.2.1 0 0 16, va_cpy cs.2.1.2.2.2.2.2.2.2.2.2.2.2.2.1 cs.1.2.2.2.2.2.2.2.2.2.2.2.2.1 0 0 5, va_cpy cs.2.1.2.2.2.2.2.2.2.2.2.2.2.2.2.1 cs.1.2.2.2.2.2.2.2.2.2.2.2.2.2.1 0 0 8, cs.2.1.2.2.2.2.2.2.2.2.2.2.2.2.2.2.1, va_cpy cs.2.1.2.2.2.2.2.2.2.2.2.2.2.2.2.2.2.1 cs.1.2.2.2.2.2.2.2.2.2.2.2.2.2.2.2.1 0 0 2220, cs.2.1.2.2.2.2.2.2.2.2.2.2.2.2.2.2.2.2.1, cs.2.1.2.2.2.2.2.2.2.2.2.2.2.2.2.2.2.2.2), cs.2) : CS), ms_set_a ms b, ?_, ?_, hRel⟩
  · intro post hp
    unfold wC_X11_back
    refine hC _ ?_
    rw [q_today]
    have e : cx_c_now (((va_cpy cs.2.1.1 cs.1.1 0 0 74, va_cpy cs.2.1.2.1 cs.1.2.1 0 0 6, va_cpy cs.2.1.2.2.1 cs.1.2.2.1 0 0 5, va_cpy cs.2.1.2.2.2.1 cs.1.2.2.2.1 0 0 5, va_cpy cs.2.1.2.2.2.2.1 cs.1.2.2.2.2.1 0 0 50, kx, cs.2.1.2.2.2.2.2.2.1, cs.2.1.2.2.2.2.2.2.2.1, va_cpy cs.2.1.2.2.2.2.2.2.2.2.1 cs.1.2.2.2.2.2.2.2.2.1 0 0 30, va_cpy cs.2.1.2.2.2.2.2.2.2.2.2.1 cs.1.2.2.2.2.2.2.2.2.2.1 0 0 8, cs.2.1.2.2.2.2.2.2.2.2.2.2.1, va_cpy cs.2.1.2.2.2.2.2.2.2.2.2.2.2.1 cs.1.2.2.2.2.2.2.2.2.2.2.2.1 0 0 16, va_cpy cs.2.1.2.2.2.2.2.2.2.2.2.2.2.2.1 cs.1.2.2.2.2.2.2.2.2.2.2.2.2.1 0 0 5, va_cpy cs.2.1.2.2.2.2.2.2.2.2.2.2.2.2.2.1 cs.1.2.2.2.2.2.2.2.2.2.2.2.2.2.1 0 0 8, cs.2.1.2.2.2.2.2.2.2.2.2.2.2.2.2.2.1, va_cpy cs.2.1.2.2.2.2.2.2.2.2.2.2.2.2.2.2.2.1 cs.1.2.2.2.2.2.2.2.2.2.2.2.2.2.2.2.1 0 0 2220, cs.2.1.2.2.2.2.2.2.2.2.2.2.2.2.2.2.2.2.1, cs.2.1.2.2.2.2.2.2.2.2.2.2.2.2.2.2.2.2.2), cs.2) : CS) 39 = ms_image ms 7 := by
      show va_cpy cs.2.1.1 cs.1.1 0 0 74 39 = ms_image ms 7
      rw [cpW_at _ _ (by decide)]
      exact rn_day R.1.2.1.1
    rw [e]
    exact hp
  · intro post hp
    unfold wM_back
    refine hM _ ?_
    have e : ms_a (ms_set_a ms b) 7 = ms_image ms 7 := hb 7 (by decide)
    rw [e]
    exact hp
