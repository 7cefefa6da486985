/-! PURE LAYER: what a token behind a whole one does -/
theorem bh_op {S : CS} {n s0 : Nat} {M : MS} {b : Nat → Nat} {t : Nat} {tx0 : Nat → Int32} {ct s e nr : Nat} {C : List (Nat × Nat)} {om : Nat} {m : MS} (H : HX S M n b t s0) {A B : List Nat} (h : CM M b t tx0 ct s e nr C (A ++ B) om 1 m) {x r : Nat} (hx : x < 50) (hb : btI ct (A ++ B) = nI x) (hr : r = if rkN x = 4 then 5 else rkN x) (hB : lowH r B) (hl : (A ++ B).length < 160) (hA : ∀ y, y ∈ A → r ≤ rkN y) (hC : C.length + A.length ≤ 304) (ho : cntO A ≤ om) (hom : om < 100) : ∃ m1, CM M b t tx0 ct s e nr (C ++ opsL A) (x :: B) (om - cntO A) 0 m1 ∧ ∀ m2, rv (wM_nextToken m1) m2 → rt (wM_behindOne m) 0 m2 := by
  have r7 := rk_7 x
  have hr7 : r ≤ 7 := by
    rw [hr]
    split <;> omega
  obtain ⟨m0, g1, g2⟩ := CM_settle H h hr7 hB (by omega) hA hC ho hom
  have hlB : B.length < 160 := by
    rw [List.length_append] at hl
    omega
  obtain ⟨g3, g4, g5⟩ := CM_push g1 hlB hx
  have g6 := CM_iw g3 0
  refine ⟨_, g6, ?_⟩
  intro m2 hn post hp
  have e11 : ms_piled (ms_set_pile m0 (upd (ms_pile m0) (ms_piled m0).toNatClampNeg (nI x))) = ms_piled m0 := by
    simp only [ms_piled, ms_set_pile]
  have tail : wM_behindOne_26 post (nI x) (nI r) m := by
    unfold wM_behindOne_26
    refine g2 _ ⟨g4, ?_⟩
    simp only [p_all]
    rw [e11, g5]
    exact hn _ hp
  unfold wM_behindOne
  refine m_betweenOf h (by omega) _ ?_
  rw [hb, m_rank hx]
  refine p_no (nI_pos (by omega)) ?_
  have e4 : (nI (rkN x) = 4) = (rkN x = 4) := propext (nI_eq (b := 4) (by omega) (by decide))
  rw [e4]
  refine p_two (fun q => ?_) (fun q => ?_)
  · rw [if_pos q] at hr
    rw [hr] at tail
    exact tail
  · rw [if_neg q] at hr
    rw [hr] at tail
    rw [m_rank hx]
    exact tail
theorem opV_app : ∀ (A : List Nat) (p : Nat) (B : List Nat), (∀ y, y ∈ A → y < 40) → 40 ≤ p → opV (A ++ p :: B) = nI p ∧ opL (p :: B) = nI B.length := by
  intro A p B
  induction A with
  | nil =>
    intro _ hp
    exact ⟨if_pos hp, if_pos hp⟩
  | cons x A ih =>
    intro hA hp
    have q := ih (fun y hy => hA y (List.mem_cons_of_mem _ hy)) hp
    have hx := hA x List.mem_cons_self
    refine ⟨?_, q.2⟩
    show (if 40 ≤ x then nI x else opV (A ++ p :: B)) = nI p
    rw [if_neg (by omega)]
    exact q.1
theorem bh_part {S : CS} {n s0 : Nat} {M : MS} {b : Nat → Nat} {t : Nat} {tx0 : Nat → Int32} {ct s e nr : Nat} {C : List (Nat × Nat)} {om : Nat} {m : MS} (H : HX S M n b t s0) {A B : List Nat} {p : Nat} (h : CM M b t tx0 ct s e nr C (A ++ p :: B) om 1 m) (hp : 40 ≤ p ∧ p < 50) (hA : ∀ y, y ∈ A → y < 40 ∧ 1 ≤ rkN y) (hl : (A ++ p :: B).length < 160) (hb : btI ct (A ++ p :: B) = -1) (hC : C.length + A.length ≤ 304) (ho : cntO A ≤ om) (hom : om < 100) : ∃ m1, CM M b t tx0 ct s e nr (C ++ opsL A) (p :: B) (om - cntO A) 1 m1 ∧ (∀ y, y = 44 ∨ y = 45 → ptI ct (A ++ p :: B) = nI y → ∀ (m2 : MS) (tok : Nat × Nat × Nat × Nat), rv (wM_nextToken m1) m2 → CM M b t tx0 tok.1 tok.2.1 tok.2.2.1 tok.2.2.2 (C ++ opsL A) (p :: B) (om - cntO A) 1 m2 → ∃ m3, CM M b t tx0 tok.1 tok.2.1 tok.2.2.1 tok.2.2.2 (C ++ opsL A) (y :: B) (om - cntO A) 0 m3 ∧ rt (wM_behindOne m) 0 m3) ∧ (ptI ct (A ++ p :: B) = 0 → 1 ≤ om - cntO A → ∀ (m2 : MS) (tok : Nat × Nat × Nat × Nat), rv (wM_nextToken m1) m2 → CM M b t tx0 tok.1 tok.2.1 tok.2.2.1 tok.2.2.2 (C ++ opsL A) (p :: B) (om - cntO A) 1 m2 → (¬ p = 45 → ∃ m3, CM M b t tx0 tok.1 tok.2.1 tok.2.2.1 tok.2.2.2 (C ++ opsL A) B (om - cntO A - 1) 1 m3 ∧ ∀ post2, wM_endOne m3 post2 → wM_behindOne m post2) ∧ (p = 45 → (C ++ opsL A).length ≤ 303 → ∃ m3, CM M b t tx0 tok.1 tok.2.1 tok.2.2.1 tok.2.2.2 ((C ++ opsL A) ++ [(3, 0)]) B (om - cntO A - 1) 1 m3 ∧ ∀ post2, wM_endOne m3 post2 → wM_behindOne m post2)) := by
  have rp : rkN p = 0 := if_pos hp.1
  obtain ⟨m1, g1, g2⟩ := CM_settle H h (r := 1) (by decide) (show rkN p < 1 by omega) (by omega) (fun y hy => (hA y hy).2) hC ho hom
  obtain ⟨v1, v2⟩ := opV_app A p B (fun y hy => (hA y hy).1) hp.1
  have hlB : B.length + 1 < 160 := by
    rw [List.length_append] at hl
    have hl' : A.length + (B.length + 1) < 160 := hl
    omega
  -- as far as the token behind
  have start : ∀ (post : Int32 → MS → Prop) (y : Int32), ptI ct (A ++ p :: B) = y → 0 ≤ y → wM_nextToken m1 (fun S_12 => ((y = 0 → (∀ S_19 : MS, S_19 = (ms_set_opens S_12 ((ms_opens S_12) - 1)) → (∀ S_20 : MS, S_20 = (ms_set_piled S_19 ((ms_piled S_19) - 1)) → ((nI p = 45 → wM_emit 3 0 S_20 (fun S_25 => wM_endOne S_25 (fun r_26 S_27 => post r_26 S_27))) ∧ (¬ (nI p = 45) → wM_endOne S_20 (fun r_22 S_23 => post r_22 S_23)))))) ∧ (¬ (y = 0) → wM_openAt S_12 (fun r_14 S_15 => (vp_in r_14 160 ∧ ∀ S_16 : MS, S_16 = (ms_set_pile S_15 (upd (ms_pile S_15) (r_14.toNatClampNeg) y)) → (∀ S_17 : MS, S_17 = (ms_set_isWhole S_16 0) → post 0 S_17)))))) → wM_behindOne m post := by
    intro post y ey hy hh
    unfold wM_behindOne
    refine m_betweenOf h (by omega) _ ?_
    rw [hb]
    refine p_yes (by decide) (m_openNow h (by omega) _ (m_partOf h (by omega) _ ?_))
    rw [ey, v1]
    exact p_yes hy (g2 _ hh)
  refine ⟨m1, g1, ?_, ?_⟩
  · intro y hy ey m2 tok hn h2
    have hy50 : y < 50 ∧ 0 < y := by
      rcases hy with q | q <;> omega
    obtain ⟨q1, q2, q3⟩ := CM_top h2 (y := y) hy50.1
    have h3 := CM_iw q1 0
    refine ⟨_, h3, ?_⟩
    intro post hpp
    refine start post (nI y) ey (nI_pos' (by omega)) (hn _ (p_no (nI_ne0 hy50.2 (by omega)) (m_openAt2 h2 (by show B.length + 1 ≤ 160; omega) _ ?_)))
    rw [v2, nI_clamp (by omega)]
    simp only [p_all]
    exact ⟨vp_in_nI (by omega) (by decide), hpp⟩
  · intro ey h1 m2 tok hn h2
    obtain ⟨om', eo⟩ : ∃ om', om - cntO A = om' + 1 := ⟨om - cntO A - 1, by omega⟩
    rw [eo] at h2 ⊢
    rw [Nat.add_sub_cancel]
    have h3 := CM_opens h2 om'
    have h4 := CM_pop h3
    obtain ⟨tk, wd, F, f1, f2, f3, f4, f5, f6, f7, f8, f9, f10⟩ := CM_tok h2
    have e12 : ms_piled (ms_set_opens m2 (nI om')) = ms_piled m2 := by
      simp only [ms_piled, ms_set_opens]
    have f5' : ms_piled m2 - 1 = nI B.length := by
      rw [f5]
      exact nI_pred _
    have f6' : ms_opens m2 - 1 = nI om' := by
      rw [f6]
      exact nI_pred _
    have e45 : (nI p = 45) = (p = 45) := propext (nI_eq (b := 45) (by omega) (by decide))
    have common : ∀ post : Int32 → MS → Prop, ((p = 45 → wM_emit 3 0 (ms_set_piled (ms_set_opens m2 (nI om')) (nI B.length)) (fun S_25 => wM_endOne S_25 post)) ∧ (¬ p = 45 → wM_endOne (ms_set_piled (ms_set_opens m2 (nI om')) (nI B.length)) post)) → wM_behindOne m post := by
      intro post hh
      refine start post 0 ey (by decide) (hn _ (p_yes rfl ?_))
      rw [p_all, p_all, f6', e12, f5', e45]
      exact hh
    refine ⟨fun np => ⟨_, h4, fun post2 hh => common post2 (p_no np hh)⟩, fun yp h303 => ?_⟩
    obtain ⟨m5, k1, k2⟩ := CM_emit H h4 h303 3 0
    exact ⟨m5, k1, fun post2 hh => common post2 (p_yes yp (k2 _ hh))⟩
