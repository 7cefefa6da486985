/-! both starting states, in step -/
def cc0 : CS_c := ((k_put 74 (fun _ => 0) 40 179), (fun _ => 0), (fun _ => 0), (fun _ => 0), (cityN 50), (fun _ => none), 0, -1, (k_fill 30 (fun _ => 0) 10), (fun _ => 0), 0, (fun _ => 0), (fun _ => 0), (fun _ => 0), 0, (fun _ => 0), 0, 0)
def cs0 : CS := (cc0, cc0, (0, -1, -1, (fun _ => 0), (fun _ => 0), (fun _ => 0), (fun _ => 0), 0, 0, 0, 0, 0, 0, 0, 0, 0), ((fun _ => 0), (fun _ => 0), 0, (fun _ => 0), (fun _ => 0), (fun _ => 0), (fun _ => 0), 0, -1, 0, 0, 0, 0, 0, 0, -1, (fun _ => 0), (fun _ => 0)), [])
def h00 (q : Nat) (u : (Nat → Nat) × (Nat → ClassId)) : Nat → Nat := fun k => ([q, u.1 0, u.1 2, u.1 14, u.1 16, u.1 28, u.1 33, u.1 36, u.1 38, u.1 42, u.1 43, u.1 44, u.1 1, u.1 4, u.1 5, u.1 6, u.1 7, u.1 8, u.1 9, u.1 10, u.1 11, u.1 12, u.1 13, u.1 3, u.1 15, u.1 18, u.1 19, u.1 20, u.1 21, u.1 22, u.1 23, u.1 24, u.1 25, u.1 26, u.1 27, u.1 17, u.1 29, u.1 30, u.1 31, u.1 32, u.1 34, u.1 35, u.1 37, u.1 39, u.1 40, u.1 41, u.1 45, u.1 46] : List Nat).getD k 0
def cy00 (u : (Nat → Nat) × (Nat → ClassId)) : Nat → ClassId := fun k => ([u.2 0, u.2 0, u.2 0, u.2 0, u.2 0, u.2 0, u.2 0, u.2 0, u.2 0, u.2 0, u.2 0, u.2 0, u.2 0, u.2 2, u.2 3, u.2 4, u.2 5, u.2 6, u.2 7, u.2 8, u.2 9, u.2 10, u.2 11, u.2 1, u.2 12, u.2 14, u.2 15, u.2 16, u.2 17, u.2 18, u.2 19, u.2 20, u.2 21, u.2 22, u.2 23, u.2 13, u.2 24, u.2 25, u.2 26, u.2 27, u.2 28, u.2 29, u.2 30, u.2 31, u.2 32, u.2 33, u.2 34, u.2 35] : List ClassId).getD k (u.2 0)
abbrev n11 : List Value := [.null, .null, .null, .null, .null, .null, .null, .null, .null]
abbrev w11 (h0 : Nat) (u : (Nat → Nat) × (Nat → ClassId)) : va_W := [(h0, .inr (10, [.ref (u.1 0), .ref (u.1 14), .ref (u.1 28), .ref (u.1 33), .ref (u.1 36), .ref (u.1 38), .ref (u.1 42), .ref (u.1 43), .ref (u.1 44)])), ((u.1 0), .inr (0, [.ref (u.1 1), .ref (u.1 2), .ref (u.1 4), .ref (u.1 5), .ref (u.1 6), .ref (u.1 7), .ref (u.1 8), .int 0, .int (-1), .ref (u.1 9), .ref (u.1 10), .int 0, .ref (u.1 11), .ref (u.1 12), .ref (u.1 13), .int 0])), ((u.1 1), .inl ((u.2 0), 74, .inl (k_put 74 (fun _ => 0) 40 179))), ((u.1 2), .inr (8, [.ref (u.1 3), .int 0, .int 0])), ((u.1 3), .inl ((u.2 1), 2220, .inl (fun _ => 0))), ((u.1 4), .inl ((u.2 2), 6, .inl (fun _ => 0))), ((u.1 5), .inl ((u.2 3), 5, .inl (fun _ => 0))), ((u.1 6), .inl ((u.2 4), 5, .inl (fun _ => 0))), ((u.1 7), .inl ((u.2 5), 50, .inl (cityN 50))), ((u.1 8), .inl ((u.2 6), 4, .inr (.inr (.inr (.inr (fun _ => none)))))), ((u.1 9), .inl ((u.2 7), 30, .inl (k_fill 30 (fun _ => 0) 10))), ((u.1 10), .inl ((u.2 8), 8, .inl (fun _ => 0))), ((u.1 11), .inl ((u.2 9), 16, .inl (fun _ => 0))), ((u.1 12), .inl ((u.2 10), 5, .inl (fun _ => 0))), ((u.1 13), .inl ((u.2 11), 8, .inl (fun _ => 0))), ((u.1 14), .inr (0, [.ref (u.1 15), .ref (u.1 16), .ref (u.1 18), .ref (u.1 19), .ref (u.1 20), .ref (u.1 21), .ref (u.1 22), .int 0, .int (-1), .ref (u.1 23), .ref (u.1 24), .int 0, .ref (u.1 25), .ref (u.1 26), .ref (u.1 27), .int 0])), ((u.1 15), .inl ((u.2 12), 74, .inl (k_put 74 (fun _ => 0) 40 179))), ((u.1 16), .inr (8, [.ref (u.1 17), .int 0, .int 0])), ((u.1 17), .inl ((u.2 13), 2220, .inl (fun _ => 0))), ((u.1 18), .inl ((u.2 14), 6, .inl (fun _ => 0))), ((u.1 19), .inl ((u.2 15), 5, .inl (fun _ => 0))), ((u.1 20), .inl ((u.2 16), 5, .inl (fun _ => 0))), ((u.1 21), .inl ((u.2 17), 50, .inl (cityN 50))), ((u.1 22), .inl ((u.2 18), 4, .inr (.inr (.inr (.inr (fun _ => none)))))), ((u.1 23), .inl ((u.2 19), 30, .inl (k_fill 30 (fun _ => 0) 10))), ((u.1 24), .inl ((u.2 20), 8, .inl (fun _ => 0))), ((u.1 25), .inl ((u.2 21), 16, .inl (fun _ => 0))), ((u.1 26), .inl ((u.2 22), 5, .inl (fun _ => 0))), ((u.1 27), .inl ((u.2 23), 8, .inl (fun _ => 0))), ((u.1 28), .inr (6, [.int 0, .int (-1), .int (-1), .ref (u.1 29), .ref (u.1 30), .ref (u.1 31), .ref (u.1 32), .int 0, .int 0, .int 0, .int 0, .int 0, .int 0, .int 0, .int 0, .int 0])), ((u.1 29), .inl ((u.2 24), 300, .inl (fun _ => 0))), ((u.1 30), .inl ((u.2 25), 96, .inl (fun _ => 0))), ((u.1 31), .inl ((u.2 26), 300, .inl (fun _ => 0))), ((u.1 32), .inl ((u.2 27), 6, .inl (fun _ => 0))), ((u.1 33), .inr (3, [.ref (u.1 0), .ref (u.1 34), .ref (u.1 35), .int 0])), ((u.1 34), .inl ((u.2 28), 12, .inl (fun _ => 0))), ((u.1 35), .inl ((u.2 29), 64, .inl (fun _ => 0))), ((u.1 36), .inr (2, [.ref (u.1 0), .ref (u.1 33), .ref (u.1 37)])), ((u.1 37), .inl ((u.2 30), 74, .inl (fun _ => 0))), ((u.1 38), .inr (7, [.ref (u.1 39), .ref (u.1 40), .ref (u.1 41), .int 0, .int (-1), .long 0])), ((u.1 39), .inl ((u.2 31), 1024, .inr (.inl (fun _ => 0)))), ((u.1 40), .inl ((u.2 32), 1024, .inr (.inl (fun _ => 0)))), ((u.1 41), .inl ((u.2 33), 32, .inl (fun _ => 0))), ((u.1 42), .inr (5, [.ref (u.1 0), .int 0])), ((u.1 43), .inr (1, [.int 0, .ref (u.1 0), .ref (u.1 33), .int 0, .int 0, .int 0])), ((u.1 44), .inr (4, [.int (-1), .ref (u.1 45), .ref (u.1 0), .ref (u.1 46)])), ((u.1 45), .inl ((u.2 34), 5, .inl (fun _ => 0))), ((u.1 46), .inl ((u.2 35), 5, .inl (fun _ => 0)))]
abbrev t11 (u : (Nat → Nat) × (Nat → ClassId)) : List (ClassId × FieldType) := [((u.2 0), .int), ((u.2 1), .int), ((u.2 2), .int), ((u.2 3), .int), ((u.2 4), .int), ((u.2 5), .int), ((u.2 6), .object "ClownsMourn$Text"), ((u.2 7), .int), ((u.2 8), .int), ((u.2 9), .int), ((u.2 10), .int), ((u.2 11), .int), ((u.2 12), .int), ((u.2 13), .int), ((u.2 14), .int), ((u.2 15), .int), ((u.2 16), .int), ((u.2 17), .int), ((u.2 18), .object "ClownsMourn$Text"), ((u.2 19), .int), ((u.2 20), .int), ((u.2 21), .int), ((u.2 22), .int), ((u.2 23), .int), ((u.2 24), .int), ((u.2 25), .int), ((u.2 26), .int), ((u.2 27), .int), ((u.2 28), .int), ((u.2 29), .int), ((u.2 30), .int), ((u.2 31), .long), ((u.2 32), .long), ((u.2 33), .int), ((u.2 34), .int), ((u.2 35), .int)]
theorem wC_start (q : Nat) (u : (Nat → Nat) × (Nat → ClassId)) : [0, 1, 3, 15, 17, 29, 34, 37, 39, 43, 44, 45, 2, 5, 6, 7, 8, 9, 10, 11, 12, 13, 14, 4, 16, 19, 20, 21, 22, 23, 24, 25, 26, 27, 28, 18, 30, 31, 32, 33, 35, 36, 38, 40, 41, 42, 46, 47].filterMap (fun i => (w11 q u)[i]?) = wC (h00 q u) (cy00 u) cs0 := rfl
theorem tyC_start (u : (Nat → Nat) × (Nat → ClassId)) : [0, 2, 3, 4, 5, 6, 7, 8, 9, 10, 11, 1, 12, 14, 15, 16, 17, 18, 19, 20, 21, 22, 23, 13, 24, 25, 26, 27, 28, 29, 30, 31, 32, 33, 34, 35].filterMap (fun i => (t11 u)[i]?) = tyC (cy00 u) := rfl
def ms00 : MS := (fun _ => 0, fun _ => 0, fun _ => 0, fun _ => 0, 0, -1, -1, 0, 0, 0, 0, 0, 0, 0, 0, fun _ => 0, 0, 0, 0, 0, fun _ => 0, fun _ => 0, fun _ => 0, fun _ => 0, fun _ => 0, fun _ => 0, fun _ => 0, fun _ => 0, 0, fun _ => 0, fun _ => 0)
def a00 (k : Nat) : Int32 := if k = 8 then 179 else if k = 3 then -1 else if k < 71 then 0 else if k < 121 then nI (((k - 71) % 10 + (k - 71) / 10 + 1) % 10) else if k < 151 then 10 else 0
theorem rn00 : ∀ i, i < 74 → cc_now cc0 i = a00 (ix i) ∧ lo i ≤ cc_now cc0 i ∧ cc_now cc0 i ≤ hi i := by decide +kernel
theorem ro00 : ∀ i, i < 196 → 74 ≤ i → oC cc0 i = a00 (ix i) ∧ lo i ≤ oC cc0 i ∧ oC cc0 i ≤ hi i := by decide +kernel
theorem RC00 {b : Nat → Int32} (hb : ∀ j, j < 2454 → b j = a00 j) : RC cc0 b := by
  have e5 : b 5 = 0 := hb 5 (by decide)
  have e6 : b 6 = 0 := hb 6 (by decide)
  have e4 : b 4 = 0 := hb 4 (by decide)
  have e3 : b 3 = -1 := hb 3 (by decide)
  have e2 : b 2 = 0 := hb 2 (by decide)
  refine ⟨fun i hi => ?_, fun i h1 hi => ?_, fun i hi => ⟨fun h => ?_, fun h => ?_⟩, ⟨0, 0, rfl, by decide, e4, by decide, ?_⟩, ?_⟩
  · rw [hb (ix i) (ix_lt i (by omega)).1]
    exact rn00 i hi
  · rw [hb (ix i) (ix_lt i hi).1]
    exact ro00 i hi h1
  · rw [e5] at h
    exact absurd h (nI_pos (by omega))
  · rw [e6] at h
    exact absurd h (nI_pos (by omega))
  · exact ⟨fun j hj => by omega, fun j hj => by omega, fun j hj => by omega⟩
  · rw [e3, e2]
    decide
theorem Top00 {b : Nat → Int32} (hb : ∀ j, j < 2454 → b j = a00 j) : Top b := by
  intro n hn h
  have e4 : b 4 = 0 := hb 4 (by decide)
  rw [e4] at h
  exact absurd h.symm (nI_ne0 (by omega) (by omega))
theorem Rel00 {S : MS} (ha : ∀ j, j < 2454 → ms_a S j = a00 j) (hi : ∀ j, j < 2454 → ms_image S j = a00 j) (h1 : ms_taped S = 0) (h2 : ms_fault S = -1) (h3 : ms_faultPlace S = -1) : Rel cs0 S := by
  refine ⟨⟨RC00 ha, RC00 hi, Top00 hi, ⟨fun t ht h => ?_, Int32.le_refl _, fun t ht h => rfl, (fun t ht ad h => by cases h), (fun t ht ad h => by cases h)⟩, h1.symm, Int32.le_refl _, by decide, fun i hi h => ?_, h2.symm, h3.symm⟩, Top00 ha⟩
  · exact absurd h (nI_pos (by omega))
  · exact absurd h (nI_pos (by omega))
theorem rem00 : ∀ i, i < 50 → k_rem (((k_rem (nI i) 10) + (nI i / 10)) + 1) 10 = nI ((i % 10 + i / 10 + 1) % 10) := by decide +kernel
theorem init_rel : wM_init ms00 (fun S => Rel cs0 S) := by
  intro S1 e1 S2 e2
  subst e1
  subst e2
  obtain ⟨a1, ea1⟩ : ∃ z : Nat → Int32, z = upf (fun i g => upd g (71 + i) (nI ((i % 10 + i / 10 + 1) % 10))) 50 0 (upd (upd (fun _ => 0) 8 179) 3 (-1)) := ⟨_, rfl⟩
  obtain ⟨a2, ea2⟩ : ∃ z : Nat → Int32, z = upf (fun i g => upd g (121 + i) 10) 30 0 a1 := ⟨_, rfl⟩
  have h1 : ∀ k, a1 k = if 71 ≤ k ∧ k < 121 then nI (((k - 71) % 10 + (k - 71) / 10 + 1) % 10) else upd (upd (fun _ => 0) 8 179) 3 (-1) k := by
    rw [ea1]
    exact upf_I (fun i g => upd g (71 + i) (nI ((i % 10 + i / 10 + 1) % 10))) (fun i g => ∀ k, g k = if 71 ≤ k ∧ k < 71 + i then nI (((k - 71) % 10 + (k - 71) / 10 + 1) % 10) else upd (upd (fun _ => 0) 8 179) 3 (-1) k) 50 (by
      intro i g hi I k
      show upd g (71 + i) (nI ((i % 10 + i / 10 + 1) % 10)) k = _
      by_cases e : k = 71 + i
      · subst e
        rw [upd_eq, if_pos (by omega), show 71 + i - 71 = i by omega]
      · rw [upd_ne _ _ e, I k]
        by_cases h : 71 ≤ k ∧ k < 71 + i
        · rw [if_pos h, if_pos (by omega)]
        · rw [if_neg h, if_neg (by omega)]) 50 0 _ (by omega) (fun k => (if_neg (by omega)).symm)
  have h2 : ∀ k, a2 k = if 121 ≤ k ∧ k < 151 then 10 else a1 k := by
    rw [ea2]
    exact upf_I (fun i g => upd g (121 + i) 10) (fun i g => ∀ k, g k = if 121 ≤ k ∧ k < 121 + i then 10 else a1 k) 30 (by
      intro i g hi I k
      show upd g (121 + i) 10 k = _
      by_cases e : k = 121 + i
      · subst e
        rw [upd_eq, if_pos (by omega)]
      · rw [upd_ne _ _ e, I k]
        by_cases h : 121 ≤ k ∧ k < 121 + i
        · rw [if_pos h, if_pos (by omega)]
        · rw [if_neg h, if_neg (by omega)]) 30 0 _ (by omega) (fun k => (if_neg (by omega)).symm)
  have ha : ∀ j, j < 2454 → a2 j = a00 j := by
    intro j hj
    rw [h2, h1]
    unfold a00
    by_cases c1 : 121 ≤ j ∧ j < 151
    · rw [if_pos c1, if_neg (by omega), if_neg (by omega), if_neg (by omega), if_neg (by omega), if_pos (by omega)]
    rw [if_neg c1]
    by_cases c2 : 71 ≤ j ∧ j < 121
    · rw [if_pos c2, if_neg (by omega), if_neg (by omega), if_neg (by omega), if_pos (by omega)]
    rw [if_neg c2]
    by_cases c3 : j = 8
    · subst c3
      decide
    by_cases c4 : j = 3
    · subst c4
      decide
    rw [upd_ne _ _ c4, upd_ne _ _ c3, if_neg c3, if_neg c4]
    by_cases c5 : j < 71
    · rw [if_pos c5]
    · rw [if_neg c5, if_neg (by omega), if_neg (by omega)]
  refine ⟨51, up_loop (fun n g i => wM_init_165 (fun S => Rel cs0 S) n i (ms_set_a ms00 g)) (fun i g => upd g (71 + i) (nI ((i % 10 + i / 10 + 1) % 10))) (fun g => ∃ k_ : Nat, wM_init_202 (fun S => Rel cs0 S) k_ 0 (ms_set_a ms00 g)) 50 ?_ ?_ (upd (upd (fun _ => 0) 8 179) 3 (-1)) ?_⟩
  · intro n g q
    show wM_init_165 (fun S => Rel cs0 S) (n + 1) (nI 50) (ms_set_a ms00 g)
    rw [wM_init_165]
    exact p_yes (by decide) q
  · intro n i g hi q
    show wM_init_165 (fun S => Rel cs0 S) (n + 1) (nI i) (ms_set_a ms00 g)
    rw [wM_init_165, rem00 i hi, show (71 : Int32) + nI i = nI (71 + i) from nI_add 71 i, nI_clamp (by omega), nI_1]
    refine p_no (nI_ge (b := 50) hi (by decide)) ⟨vp_in_nI (by omega) (by decide), ?_⟩
    intro S2 e2
    subst e2
    exact q
  rw [← ea1]
  refine ⟨31, up_loop (fun n g i => wM_init_202 (fun S => Rel cs0 S) n i (ms_set_a ms00 g)) (fun i g => upd g (121 + i) 10) (fun g => wM_copy_a_image (ms_set_a ms00 g) (fun S => Rel cs0 S)) 30 ?_ ?_ a1 ?_⟩
  · intro n g q
    show wM_init_202 (fun S => Rel cs0 S) (n + 1) (nI 30) (ms_set_a ms00 g)
    rw [wM_init_202]
    exact p_yes (by decide) q
  · intro n i g hi q
    show wM_init_202 (fun S => Rel cs0 S) (n + 1) (nI i) (ms_set_a ms00 g)
    rw [wM_init_202, show (121 : Int32) + nI i = nI (121 + i) from nI_add 121 i, nI_clamp (by omega), nI_1]
    refine p_no (nI_ge (b := 30) hi (by decide)) ⟨vp_in_nI (by omega) (by decide), ?_⟩
    intro S2 e2
    subst e2
    exact q
  rw [← ea2]
  obtain ⟨b, hb, hM⟩ := m_image (ms_set_a ms00 a2)
  exact hM _ (Rel00 (S := ms_set_image (ms_set_a ms00 a2) b) ha (fun j hj => (hb j hj).trans (ha j hj)) rfl rfl rfl)
