/-! PURE LAYER: whose -/
theorem gr_tab : ∀ h, h < 6 → ∀ b, b < 10 → nI (10 * h + b) / 10 = nI h ∧ k_rem (nI (10 * h + b)) 10 = nI b := by decide +kernel
theorem s_texts {S T : CS} (h : sC S T) : cx_c_texts T = cx_c_texts S := congrArg (fun c : CS_c => c.2.2.2.2.2.1) h.1
theorem wh_zero {G : Nat} (hG : G ≤ 8) (ms : MS) (e6 : ms_a ms 6 = nI G) (post : Int32 → MS → Prop) (K : Int32 → Int32 → MS → Prop) (x1 x2 : Int32) (hp : K (x1 ||| 0) (x2 + 1) ms) : ∀ d i, i + d = G → wM_whose_19 post K (d + 1) x1 x2 0 (nI i) ms := by
  intro d
  induction d with
  | zero =>
    intro i e
    have ei : i = G := by omega
    subst ei
    rw [wM_whose_19, e6]
    exact p_yes (Int32.le_refl _) (p_yes rfl hp)
  | succ d ih =>
    intro i e
    rw [wM_whose_19, e6, nI_1]
    exact p_no (nI_ge (by omega) (by omega)) (p_yes rfl (ih (i + 1) (by omega)))
theorem wh_in {t G : Nat} (ht : t < 4) (hG : G ≤ 8) : ∀ (d i : Nat) (cs : CS) (ms : MS), i + d = G → Rel0 cs ms → ms_a ms 6 = nI G → nI t < ms_a ms 2 → ∃ (b : Int32) (cs' : CS) (ms' : MS), sC cs cs' ∧ sM ms ms' ∧ (b = 0 ∨ b = 1) ∧ (∀ post : Int32 → CS → Prop, post b cs' → wC_X11_growsAsTold_2 post (d + 1) (cx_c_texts cs t) (nI i) cs) ∧ (∀ (post : Int32 → MS → Prop) (K : Int32 → Int32 → MS → Prop) (x1 : Int32), ((b = 0 → K (x1 ||| 0) (nI t + 1) ms') ∧ (¬ (b = 0) → K (x1 ||| (k_shl 1 (nI t))) (nI t + 1) ms')) → wM_whose_19 post K (d + 1) x1 (nI t) 1 (nI i) ms) := by
  intro d
  induction d with
  | zero =>
    intro i cs ms e R e6 h2
    have ei : i = G := by omega
    subst ei
    refine ⟨1, cs, ms, sC_refl _, sM_refl _, Or.inr rfl, ?_, ?_⟩
    · intro post hp
      have ec : cx_c_grownCount cs = ms_a ms 6 := rd_grownCount R.1
      rw [wC_X11_growsAsTold_2, ec, e6]
      exact p_yes (Int32.le_refl _) hp
    · intro post K x1 hp
      rw [wM_whose_19, e6]
      exact p_yes (Int32.le_refl _) (p_no (by decide) (hp.2 (by decide)))
  | succ d ih =>
    intro i cs ms e R e6 h2
    have ec : cx_c_grownCount cs = ms_a ms 6 := rd_grownCount R.1
    obtain ⟨g1, g2, g3, g4, g5⟩ := (R.1.2.2.1 i (by omega)).2 (by rw [e6]; exact nI_lt (by omega) (by omega))
    have g1' : cx_c_growns cs i = 10 * ms_a ms (188 + 2 * i) + ms_a ms (189 + 2 * i) := g1
    obtain ⟨h, hh, eh⟩ := p_rng2 (n := 5) (by decide) g2 g3
    obtain ⟨b, hb, eb⟩ := p_rng2 (n := 9) (by decide) g4 g5
    have gv : k_at 8 (cx_c_growns cs) (nI i) = nI (10 * h + b) := by
      rw [p_at (by decide) _ (by omega), g1', eh, eb, nI_lm 10 h, nI_add]
    obtain ⟨t1, t2⟩ := gr_tab h (by omega) b (by omega)
    obtain ⟨r, cs1, ms1, br, s1, s2, hC, hM⟩ := sim_growing R (h := h) (by omega) (p := nI t) (tx := cx_c_texts cs t) (Or.inr ⟨t, ht, rfl, h2, rfl⟩)
    have R1 := Rel0_s R s1 s2
    have ea := s2.1
    by_cases c : r = nI b
    · obtain ⟨b', cs2, ms2, q1, q2, q3, q4, q5⟩ := ih (i + 1) cs1 ms1 (by omega) R1 (by rw [ea]; exact e6) (by rw [ea]; exact h2)
      refine ⟨b', cs2, ms2, sC_trans s1 q1, sM_trans s2 q2, q3, ?_, ?_⟩
      · intro post hp
        rw [wC_X11_growsAsTold_2, ec, e6, gv, t1, t2, nI_1]
        refine p_no (nI_ge (by omega) (by omega)) (hC _ (p_yes c ?_))
        rw [← s_texts s1]
        exact q4 post hp
      · intro post K x1 hp
        rw [wM_whose_19, e6]
        refine p_no (nI_ge (by omega) (by omega)) (p_no (by decide) ?_)
        rw [nI_lm 2 i, nI_la 188 (2 * i), nI_clamp (by omega), eh]
        refine ⟨vp_in_nI (by omega) (by decide), hM _ ?_⟩
        rw [nI_1 (188 + 2 * i), nI_clamp (by omega), ea, show 188 + 2 * i + 1 = 189 + 2 * i by omega, eb, nI_1 i]
        refine ⟨vp_in_nI (by omega) (by decide), p_yes c ?_⟩
        exact q5 post K x1 hp
    · refine ⟨0, cs1, ms1, s1, s2, Or.inl rfl, ?_, ?_⟩
      · intro post hp
        rw [wC_X11_growsAsTold_2, ec, e6, gv, t1, t2]
        exact p_no (nI_ge (by omega) (by omega)) (hC _ (p_no c hp))
      · intro post K x1 hp
        rw [wM_whose_19, e6]
        refine p_no (nI_ge (by omega) (by omega)) (p_no (by decide) ?_)
        rw [nI_lm 2 i, nI_la 188 (2 * i), nI_clamp (by omega), eh]
        refine ⟨vp_in_nI (by omega) (by decide), hM _ ?_⟩
        rw [nI_1 (188 + 2 * i), nI_clamp (by omega), ea, show 188 + 2 * i + 1 = 189 + 2 * i by omega, eb, nI_1 i]
        refine ⟨vp_in_nI (by omega) (by decide), p_no c ?_⟩
        exact wh_zero hG ms1 (by rw [ea]; exact e6) post K x1 (nI t) (hp.1 rfl) d (i + 1) (by omega)
theorem wh_out {T : Nat} (hT : T ≤ 4) : ∀ (d t : Nat) (x : Int32) (cs : CS) (ms : MS), t + d = T → Rel0 cs ms → ms_a ms 2 = nI T → ∃ (r : Int32) (cs' : CS) (ms' : MS), sC cs cs' ∧ sM ms ms' ∧ (∀ post : Int32 → CS → Prop, post r cs' → wC_X11_whose_4 post (d + 1) x (nI t) cs) ∧ (∀ post : Int32 → MS → Prop, post r ms' → wM_whose_4 post (d + 1) x (nI t) ms) := by
  intro d
  induction d with
  | zero =>
    intro t x cs ms e R e2
    have ei : t = T := by omega
    subst ei
    refine ⟨x, cs, ms, sC_refl _, sM_refl _, ?_, ?_⟩
    · intro post hp
      rw [wC_X11_whose_4, rd_textCount R.1, e2]
      exact p_yes (Int32.le_refl _) hp
    · intro post hp
      rw [wM_whose_4, e2]
      exact p_yes (Int32.le_refl _) hp
  | succ d ih =>
    intro t x cs ms e R e2
    have b6 := bd_grownCount R.1
    obtain ⟨G, hG, e6⟩ := p_rng2 (n := 8) (by decide) b6.1 b6.2
    have h2 : nI t < ms_a ms 2 := by
      rw [e2]
      exact nI_lt (by omega) (by omega)
    obtain ⟨b, cs1, ms1, s1, s2, hb, hC, hM⟩ := wh_in (t := t) (by omega) hG G 0 cs ms (by omega) R e6 h2
    have R1 := Rel0_s R s1 s2
    have ea := s2.1
    obtain ⟨r, cs2, ms2, q1, q2, q4, q5⟩ := ih (t + 1) (if b = 0 then x else x ||| k_shl 1 (nI t)) cs1 ms1 (by omega) R1 (by rw [ea]; exact e2)
    refine ⟨r, cs2, ms2, sC_trans s1 q1, sM_trans s2 q2, ?_, ?_⟩
    · intro post hp
      rw [wC_X11_whose_4, rd_textCount R.1, e2, nI_1]
      refine p_no (nI_ge (by omega) (by omega)) (q_textAt (by omega) (by rw [rd_textCount R.1]; exact h2) _ ⟨G + 1, hC _ ?_⟩)
      have q := q4 post hp
      refine p_two (fun c => ?_) (fun c => ?_)
      · rw [if_pos c] at q
        exact q
      · rw [if_neg c] at q
        exact q
    · intro post hp
      rw [wM_whose_4, e2]
      refine p_no (nI_ge (by omega) (by omega)) ⟨G + 1, hM _ _ _ ?_⟩
      have q := q5 post hp
      rw [nI_1]
      refine p_two (fun c => ?_) (fun c => ?_)
      · rw [if_pos c] at q
        rw [Int32.or_zero]
        exact q
      · rw [if_neg c] at q
        exact q
theorem sim_whose {cs : CS} {ms : MS} (R : Rel cs ms) : ∃ (r : Int32) (cs' : CS) (ms' : MS), rt (wC_X11_whose cs) r cs' ∧ rt (wM_whose ms) r ms' ∧ Rel cs' ms' := by
  have b2 := bd_textCount R.1.1
  obtain ⟨T, hT, e2⟩ := p_rng2 (n := 4) (by decide) b2.1 b2.2
  obtain ⟨r, cs', ms', s1, s2, hC, hM⟩ := wh_out hT T 0 0 cs ms (by omega) R.1 e2
  exact ⟨r, cs', ms', fun post hp => ⟨T + 1, hC post hp⟩, fun post hp => ⟨T + 1, hM post hp⟩, Rel_s R s1 s2⟩
