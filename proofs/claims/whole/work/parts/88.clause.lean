/-! PURE LAYER: both readers in step: how a clause begins -/
/-- the reference's sort of a clause that begins with this token -/
def soI (ct : Nat) : Int32 := if ct = 12 then 0 else if ct = 13 then 1 else if ct = 14 then 2 else if ct = 5 then 3 else if ct = 15 then 4 else if ct = 3 then 5 else if ct = 16 then 6 else if ct = 9 then 7 else if ct = 17 then 8 else if ct = 0 then 9 else -1
def isC (ct : Nat) : Prop := ct = 12 ∨ ct = 13 ∨ ct = 14 ∨ ct = 5 ∨ ct = 15 ∨ ct = 3 ∨ ct = 16 ∨ ct = 9 ∨ ct = 17 ∨ ct = 0
theorem k_sortOf {M : MS} {b : Nat → Nat} {t : Nat} {tx0 : Nat → Int32} {ct s e nr : Nat} {C : List (Nat × Nat)} {m : MS} (h : KM M b t tx0 ct s e nr C m) (post : Int32 → MS → Prop) (hp : post (soI ct) m) : wM_sortOf m post := by
  unfold wM_sortOf
  unfold soI at hp
  rw [wv_12, k_word h (i := 12) (by decide) (by decide), p_b0]
  by_cases c12 : ct = 12
  · rw [if_pos c12] at hp
    exact p_val c12 hp
  rw [if_neg c12] at hp
  refine p_yes c12 ?_
  rw [wv_13, k_word h (i := 13) (by decide) (by decide), p_b0]
  by_cases c13 : ct = 13
  · rw [if_pos c13] at hp
    exact p_val c13 hp
  rw [if_neg c13] at hp
  refine p_yes c13 ?_
  rw [wv_14, k_word h (i := 14) (by decide) (by decide), p_b0]
  by_cases c14 : ct = 14
  · rw [if_pos c14] at hp
    exact p_val c14 hp
  rw [if_neg c14] at hp
  refine p_yes c14 ?_
  rw [wv_5, k_word h (i := 5) (by decide) (by decide), p_b0]
  by_cases c5 : ct = 5
  · rw [if_pos c5] at hp
    exact p_val c5 hp
  rw [if_neg c5] at hp
  refine p_yes c5 ?_
  rw [wv_15, k_word h (i := 15) (by decide) (by decide), p_b0]
  by_cases c15 : ct = 15
  · rw [if_pos c15] at hp
    exact p_val c15 hp
  rw [if_neg c15] at hp
  refine p_yes c15 ?_
  rw [wv_3, k_word h (i := 3) (by decide) (by decide), p_b0]
  by_cases c3 : ct = 3
  · rw [if_pos c3] at hp
    exact p_val c3 hp
  rw [if_neg c3] at hp
  refine p_yes c3 ?_
  rw [wv_16, k_word h (i := 16) (by decide) (by decide), p_b0]
  by_cases c16 : ct = 16
  · rw [if_pos c16] at hp
    exact p_val c16 hp
  rw [if_neg c16] at hp
  refine p_yes c16 ?_
  rw [wv_9, k_word h (i := 9) (by decide) (by decide), p_b0]
  by_cases c9 : ct = 9
  · rw [if_pos c9] at hp
    exact p_val c9 hp
  rw [if_neg c9] at hp
  refine p_yes c9 ?_
  rw [wv_17, k_word h (i := 17) (by decide) (by decide), p_b0]
  by_cases c17 : ct = 17
  · rw [if_pos c17] at hp
    exact p_val c17 hp
  rw [if_neg c17] at hp
  refine p_yes c17 ?_
  rw [wv_0, k_word h (i := 0) (by decide) (by decide), p_b0]
  by_cases c0 : ct = 0
  · rw [if_pos c0] at hp
    exact p_val c0 hp
  rw [if_neg c0] at hp
  refine p_yes c0 ?_
  exact hp
theorem so_tab : ∀ ct, ct ≤ 45 → (ct = 12 ∨ ct = 13 ∨ ct = 14 ∨ ct = 5 ∨ ct = 15 ∨ ct = 3 ∨ ct = 16 ∨ ct = 9 ∨ ct = 17 ∨ ct = 0) → ∃ so, so < 10 ∧ soI ct = nI so ∧ soC so = ct ∧ (so < 3 ↔ (12 ≤ ct ∧ ct ≤ 14)) ∧ (so < 3 → ct = 12 + so) := by
  intro ct _ h
  rcases h with z | z | z | z | z | z | z | z | z | z <;> rw [z]
  · exact ⟨0, by decide, rfl, rfl, by decide, fun _ => rfl⟩
  · exact ⟨1, by decide, rfl, rfl, by decide, fun _ => rfl⟩
  · exact ⟨2, by decide, rfl, rfl, by decide, fun _ => rfl⟩
  · exact ⟨3, by decide, rfl, rfl, by decide, fun q => absurd q (by decide)⟩
  · exact ⟨4, by decide, rfl, rfl, by decide, fun q => absurd q (by decide)⟩
  · exact ⟨5, by decide, rfl, rfl, by decide, fun q => absurd q (by decide)⟩
  · exact ⟨6, by decide, rfl, rfl, by decide, fun q => absurd q (by decide)⟩
  · exact ⟨7, by decide, rfl, rfl, by decide, fun q => absurd q (by decide)⟩
  · exact ⟨8, by decide, rfl, rfl, by decide, fun q => absurd q (by decide)⟩
  · exact ⟨9, by decide, rfl, rfl, by decide, fun q => absurd q (by decide)⟩
theorem so_no {ct : Nat} (h : ¬ isC ct) : soI ct = -1 := by
  unfold isC at h
  unfold soI
  rw [if_neg (by omega), if_neg (by omega), if_neg (by omega), if_neg (by omega), if_neg (by omega), if_neg (by omega), if_neg (by omega), if_neg (by omega), if_neg (by omega), if_neg (by omega)]
theorem c_begins {ct : Nat} (h45 : ct ≤ 45) (S : CS) (post : Int32 → CS → Prop) (h1 : isC ct → post 1 S) (h0 : ¬ isC ct → post 0 S) : wC_X6_beginsClause (nI ct) S post := by
  unfold wC_X6_beginsClause
  unfold isC at h1 h0
  have e0 : (nI ct = 0) = (ct = 0) := propext (nI_eq (b := 0) (by omega) (by decide))
  have e3 : (nI ct = 3) = (ct = 3) := propext (nI_eq (b := 3) (by omega) (by decide))
  have e5 : (nI ct = 5) = (ct = 5) := propext (nI_eq (b := 5) (by omega) (by decide))
  have e9 : (nI ct = 9) = (ct = 9) := propext (nI_eq (b := 9) (by omega) (by decide))
  have l12 : (nI ct < 12) = (ct < 12) := propext (nI_ltI (b := 12) (by omega) (by decide))
  have l17 : ((17 : Int32) < nI ct) = (17 < ct) := propext (nI_ltI (a := 17) (by decide) (by omega))
  rw [e0, e3, e5, e9, l12, l17]
  exact p_two (fun z => h1 (by omega)) (fun z0 => p_two (fun z => h1 (by omega)) (fun z3 => p_two (fun z => h1 (by omega)) (fun z5 => p_two (fun z => h1 (by omega)) (fun z9 => p_two (fun z => h0 (by omega)) (fun z12 => p_two (fun z => h0 (by omega)) (fun z17 => h1 (by omega)))))))
theorem c_isLaw {ct : Nat} (h45 : ct ≤ 45) (S : CS) (post : Int32 → CS → Prop) (h1 : (12 ≤ ct ∧ ct ≤ 14) → post 1 S) (h0 : ¬ (12 ≤ ct ∧ ct ≤ 14) → post 0 S) : wC_X6_isLaw (nI ct) S post := by
  unfold wC_X6_isLaw
  have l12 : (nI ct < 12) = (ct < 12) := propext (nI_ltI (b := 12) (by omega) (by decide))
  have l14 : ((14 : Int32) < nI ct) = (14 < ct) := propext (nI_ltI (a := 14) (by decide) (by omega))
  rw [l12, l14]
  exact p_two (fun z => h0 (by omega)) (fun z12 => p_two (fun z => h0 (by omega)) (fun z14 => h1 (by omega)))
/-- which laws have been read: the reference's bits -/
theorem on_has : ∀ o, o < 8 → ∀ s, s < 3 → (k_shr (nI o) (nI s) &&& 1 = 1) = (o.testBit s = true) := by
  have t : ∀ o, o < 8 → ∀ s, s < 3 → ((k_shr (nI o) (nI s) &&& 1 = 1) ↔ (o.testBit s = true)) := by decide +kernel
  intro o ho s hs
  exact propext (t o ho s hs)
theorem on_set : ∀ o, o < 8 → ∀ s, s < 3 → (nI o ||| k_shl 1 (nI s)) = nI (o ||| 2 ^ s) ∧ o ||| 2 ^ s < 8 ∧ ∀ s', s' < 3 → (o ||| 2 ^ s).testBit s' = (o.testBit s' || decide (s' = s)) := by decide +kernel
