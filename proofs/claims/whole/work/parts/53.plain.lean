/-! PURE LAYER, methods without loops, on -/
theorem sim_bore {cs : CS} {ms : MS} (R : Rel cs ms) (p1 p2 : Int32) : ∃ (r : Int32) (cs' : CS) (ms' : MS), rt (wC_X11_bore p1 p2 cs) r cs' ∧ rt (wM_bore p1 p2 ms) r ms' ∧ Rel cs' ms' := by
  have hb := bd_trialCount R.1.1
  have e1 := rd_trialCount R.1.1
  obtain ⟨n, hn, en⟩ := p_rng2 (n := 8) (by decide) hb.1 hb.2
  by_cases c0 : p1 = -1
  · have hu : ∀ k, k ≠ 5 → k ≠ 6 → ¬ (151 ≤ k ∧ k < 167) → ¬ (188 ≤ k ∧ k < 204) → upd (ms_a ms) 5 0 k = ms_a ms k := fun k hk _ _ _ => upd_ne _ 0 hk
    refine ⟨0, cx_set_c_trialCount cs 0, ms_set_a ms (upd (ms_a ms) 5 0), ?_, ?_, ?_⟩
    · intro post hp
      unfold wC_X11_bore
      simp only [p_all]
      exact p_yes c0 hp
    · intro post hp
      unfold wM_bore
      simp only [p_all]
      exact p_yes c0 hp
    · refine Rel_a R (st_trialCount _ _).1 ?_ ?_ ?_ (Top_count R.2 hu)
      · rw [(st_trialCount _ _).2]
        simp only [cc_texts]
      · rw [(st_trialCount _ _).2]
        simp only [cc_textCount]
      rw [(st_trialCount _ _).2]
      refine RC_count R.1.1 hu (by simp only [cc_now]) (by simp only [cc_rows]) (by simp only [cc_first]) (RO_trialCount R.1.1.2.1 (by decide) (by decide)) ?_
      show RT (cx_c_trials cs) (cx_c_growns cs) _
      intro i hi
      obtain ⟨_, q2⟩ := R.1.1.2.2.1 i hi
      refine ⟨?_, ?_⟩
      · intro h
        rw [upd_eq] at h
        exact absurd h (nI_pos (by omega))
      · rw [upd_ne _ _ (by omega), upd_ne _ _ (by omega), upd_ne _ _ (by omega)]
        exact q2
  · by_cases c : (0 ≤ p1 ∧ p1 ≤ 99) ∧ n < 8
    · obtain ⟨c1, c2⟩ := c
      obtain ⟨l, hl, e2⟩ : ∃ l : Int32, (l = 0 ∨ l = 1) ∧ ((p2 = 0 → l = 0) ∧ (¬ p2 = 0 → l = 1)) := by
        by_cases h : p2 = 0
        · exact ⟨0, Or.inl rfl, fun _ => rfl, fun n => absurd h n⟩
        · exact ⟨1, Or.inr rfl, fun n => absurd n h, fun _ => rfl⟩
      obtain ⟨g, hg, rfl⟩ := p_rng2 (n := 99) (by decide) c1.1 c1.2
      have hu : ∀ k, k ≠ 5 → k ≠ 6 → ¬ (151 ≤ k ∧ k < 167) → ¬ (188 ≤ k ∧ k < 204) → upd (upd (upd (ms_a ms) (151 + 2 * n) (nI g)) (152 + 2 * n) l) 5 (nI (n + 1)) k = ms_a ms k := by
        intro k h1 _ h2 _
        rw [upd_ne _ _ h1, upd_ne _ _ (by omega), upd_ne _ _ (by omega)]
      refine ⟨nI (n + 1), cx_set_c_trialCount (cx_set_c_trials cs (upd (cx_c_trials cs) n (nI (g * 2) + l))) (nI (n + 1)), ms_set_a ms (upd (upd (upd (ms_a ms) (151 + 2 * n) (nI g)) (152 + 2 * n) l) 5 (nI (n + 1))), ?_, ?_, ?_⟩
      · intro post hp
        have hp2 : wC_X11_bore_66 post (nI n) (nI g * 2) l cs := by
          unfold wC_X11_bore_66
          simp only [p_all, gs_trialCount_trials, gs_trialCount_trialCount]
          rw [nI_ml 2 g, p_put (by decide) _ (show n < 8 by omega), e1, en, nI_1]
          exact hp
        unfold wC_X11_bore
        simp only [q_within, p_b0, p_all]
        refine p_no c0 (p_val c1 ?_)
        rw [e1, en]
        refine p_yes (nI_lt (b := 8) c2 (by decide)) (p_two (fun h => ?_) (fun h => ?_))
        · rw [e2.1 h] at hp2
          exact hp2
        · rw [e2.2 h] at hp2
          exact hp2
      · intro post hp
        have hp2 : wM_bore_83 post (nI (151 + 2 * n + 1)) l (ms_set_a ms (upd (ms_a ms) (151 + 2 * n) (nI g))) := by
          unfold wM_bore_83
          simp only [p_all, g_aa, s_aa, upd_eq]
          refine ⟨vp_in_nI (by omega) (by decide), ?_⟩
          rw [nI_clamp (by omega), show 151 + 2 * n + 1 = 152 + 2 * n by omega]
          have e3 : upd (upd (ms_a ms) (151 + 2 * n) (nI g)) (152 + 2 * n) l 5 = nI n := by
            rw [upd_ne _ _ (by omega), upd_ne _ _ (by omega)]
            exact en
          rw [e3, nI_1]
          exact hp
        unfold wM_bore
        simp only [m_isIn, p_b0, p_all]
        refine p_no c0 (p_val c1 (p_no ?_ ?_))
        · rw [en]
          intro h
          have := (nI_eq (b := 8) (by omega) (by decide)).mp h
          omega
        · have e3 : upd (ms_a ms) (151 + 2 * n) (nI g) 5 = nI n := by
            rw [upd_ne _ _ (by omega)]
            exact en
          simp only [g_aa]
          rw [en, nI_lm 2 n, nI_la 151 (2 * n), nI_clamp (by omega), e3, nI_lm 2 n, nI_la 151 (2 * n), nI_1]
          refine ⟨vp_in_nI (by omega) (by decide), p_two (fun h => ?_) (fun h => ?_)⟩
          · rw [e2.1 h] at hp2
            exact hp2
          · rw [e2.2 h] at hp2
            exact hp2
      · have ec : (cx_set_c_trialCount (cx_set_c_trials cs (upd (cx_c_trials cs) n (nI (g * 2) + l))) (nI (n + 1))).1 = (cs.1.1, cs.1.2.1, cs.1.2.2.1, cs.1.2.2.2.1, cs.1.2.2.2.2.1, cs.1.2.2.2.2.2.1, cs.1.2.2.2.2.2.2.1, cs.1.2.2.2.2.2.2.2.1, cs.1.2.2.2.2.2.2.2.2.1, upd (cx_c_trials cs) n (nI (g * 2) + l), nI (n + 1), cs.1.2.2.2.2.2.2.2.2.2.2.2) := by
          simp only [cx_set_c_trialCount, cx_set_c_trials]
        have e2c : (cx_set_c_trialCount (cx_set_c_trials cs (upd (cx_c_trials cs) n (nI (g * 2) + l))) (nI (n + 1))).2 = cs.2 := by
          simp only [cx_set_c_trialCount, cx_set_c_trials]
        have hO : RO (oC (cs.1.1, cs.1.2.1, cs.1.2.2.1, cs.1.2.2.2.1, cs.1.2.2.2.2.1, cs.1.2.2.2.2.2.1, cs.1.2.2.2.2.2.2.1, cs.1.2.2.2.2.2.2.2.1, cs.1.2.2.2.2.2.2.2.2.1, upd (cx_c_trials cs) n (nI (g * 2) + l), nI (n + 1), cs.1.2.2.2.2.2.2.2.2.2.2.2)) (upd (upd (upd (ms_a ms) (151 + 2 * n) (nI g)) (152 + 2 * n) l) 5 (nI (n + 1))) := by
          have q := RO_trialCount R.1.1.2.1 (v := nI (n + 1)) (nI_pos' (by omega)) (nI_le (b := 8) (by omega) (by decide))
          refine RO_ext (RO_off q ?_) ?_
          · intro i h1 h2
            have := (ix_lt i h2).2.2.1
            by_cases e5 : ix i = 5
            · rw [e5, upd_eq, upd_eq]
            · rw [upd_ne _ _ e5, upd_ne _ _ e5, upd_ne _ _ (by omega), upd_ne _ _ (by omega)]
          · intro i h1 h2
            refine oC_ext (j := 0) ?_ ?_ ?_ ?_ ?_ ?_ ?_ ?_ ?_ ?_ ?_ ?_ i h1 h2 (by omega)
            · intro _ _ _
              simp only [cc_kinds]
            · intro _ _ _
              simp only [cc_skills]
            · intro _ _ _
              simp only [cc_ages]
            · intro _ _ _
              simp only [cc_turns]
            · intro _ _ _
              simp only [cc_costs]
            · intro _ _ _
              simp only [cc_worths]
            · intro _ _ _
              simp only [cc_aheads]
            · intro _
              simp only [cc_textCount]
            · intro _
              simp only [cc_ruling]
            · intro _
              simp only [cc_trialCount]
            · intro _
              simp only [cc_grownCount]
            · intro _
              simp only [cc_count]
        refine Rel_a R e2c ?_ ?_ ?_ (Top_count R.2 hu)
        · rw [ec]
          simp only [cc_texts]
        · rw [ec]
          simp only [cc_textCount]
        rw [ec]
        refine RC_count R.1.1 hu (by simp only [cc_now]) (by simp only [cc_rows]) (by simp only [cc_first]) hO ?_
        show RT (upd (cx_c_trials cs) n (nI (g * 2) + l)) (cx_c_growns cs) _
        intro i hi
        obtain ⟨q1, q2⟩ := R.1.1.2.2.1 i hi
        refine ⟨?_, ?_⟩
        · rw [upd_eq]
          intro h
          have h' := (nI_ltI (by omega) (by omega)).mp h
          by_cases ei : i = n
          · subst ei
            rw [upd_ne _ _ (show 151 + 2 * i ≠ 5 by omega), upd_ne _ _ (show 151 + 2 * i ≠ 152 + 2 * i by omega), upd_eq, upd_ne _ _ (show 152 + 2 * i ≠ 5 by omega), upd_eq, upd_eq]
            refine ⟨?_, nI_pos' (by omega), nI_le (b := 99) hg (by decide), hl⟩
            rw [nI_lm 2 g, Nat.mul_comm]
          · rw [upd_ne _ _ (show 151 + 2 * i ≠ 5 by omega), upd_ne _ _ (show 151 + 2 * i ≠ 152 + 2 * n by omega), upd_ne _ _ (show 151 + 2 * i ≠ 151 + 2 * n by omega), upd_ne _ _ (show 152 + 2 * i ≠ 5 by omega), upd_ne _ _ (show 152 + 2 * i ≠ 152 + 2 * n by omega), upd_ne _ _ (show 152 + 2 * i ≠ 151 + 2 * n by omega)]
            have q := q1 (by rw [en]; exact nI_lt (by omega) (by omega))
            refine ⟨?_, q.2⟩
            show upd (cx_c_trials cs) n (nI (g * 2) + l) i = _
            rw [upd_ne _ _ ei]
            exact q.1
        · rw [upd_ne _ _ (by omega), upd_ne _ _ (by omega), upd_ne _ _ (by omega), upd_ne _ _ (by omega), upd_ne _ _ (by omega), upd_ne _ _ (by omega), upd_ne _ _ (by omega), upd_ne _ _ (by omega), upd_ne _ _ (by omega)]
          exact q2
    · refine ⟨-2, cs, ms, ?_, ?_, R⟩
      · intro post hp
        unfold wC_X11_bore
        simp only [q_within, p_b0, p_all]
        refine p_no c0 (p_inv hp (fun c1 => p_no ?_ hp))
        rw [e1, en]
        intro h
        exact c ⟨c1, (nI_ltI (b := 8) (by omega) (by decide)).mp h⟩
      · intro post hp
        unfold wM_bore
        simp only [m_isIn, p_b0, p_all]
        refine p_no c0 (p_inv hp (fun c1 => p_yes ?_ hp))
        rw [en]
        have : n = 8 := by
          by_cases h : n < 8
          · exact absurd ⟨c1, h⟩ c
          · omega
        rw [this]
        rfl
theorem sim_grown {cs : CS} {ms : MS} (R : Rel cs ms) (p1 p2 : Int32) : ∃ (r : Int32) (cs' : CS) (ms' : MS), rt (wC_X11_grown p1 p2 cs) r cs' ∧ rt (wM_grown p1 p2 ms) r ms' ∧ Rel cs' ms' := by
  have hb := bd_grownCount R.1.1
  have e1 := rd_grownCount R.1.1
  have hH := bd_houses R.1.1
  have eH := rd_houses R.1.1
  obtain ⟨n, hn, en⟩ := p_rng2 (n := 8) (by decide) hb.1 hb.2
  by_cases c0 : p1 = -1
  · have hu : ∀ k, k ≠ 5 → k ≠ 6 → ¬ (151 ≤ k ∧ k < 167) → ¬ (188 ≤ k ∧ k < 204) → upd (ms_a ms) 6 0 k = ms_a ms k := fun k _ hk _ _ => upd_ne _ 0 hk
    refine ⟨0, cx_set_c_grownCount cs 0, ms_set_a ms (upd (ms_a ms) 6 0), ?_, ?_, ?_⟩
    · intro post hp
      unfold wC_X11_grown
      simp only [p_all]
      exact p_yes c0 hp
    · intro post hp
      unfold wM_grown
      simp only [p_all]
      exact p_yes c0 hp
    · refine Rel_a R (st_grownCount _ _).1 ?_ ?_ ?_ (Top_count R.2 hu)
      · rw [(st_grownCount _ _).2]
        simp only [cc_texts]
      · rw [(st_grownCount _ _).2]
        simp only [cc_textCount]
      rw [(st_grownCount _ _).2]
      refine RC_count R.1.1 hu (by simp only [cc_now]) (by simp only [cc_rows]) (by simp only [cc_first]) (RO_grownCount R.1.1.2.1 (by decide) (by decide)) ?_
      show RT (cx_c_trials cs) (cx_c_growns cs) _
      intro i hi
      obtain ⟨q1, _⟩ := R.1.1.2.2.1 i hi
      refine ⟨?_, ?_⟩
      · rw [upd_ne _ _ (by omega), upd_ne _ _ (by omega), upd_ne _ _ (by omega)]
        exact q1
      · intro h
        rw [upd_eq] at h
        exact absurd h (nI_pos (by omega))
  · by_cases c : (0 ≤ p1 ∧ p1 < ms_a ms 0) ∧ (0 ≤ p2 ∧ p2 ≤ 9) ∧ n < 8
    · obtain ⟨c1, c2, c3⟩ := c
      obtain ⟨g, hg, rfl⟩ := p_rng (n := 6) (by decide) c1.1 (Int32.lt_of_lt_of_le c1.2 hH.2)
      have hu : ∀ k, k ≠ 5 → k ≠ 6 → ¬ (151 ≤ k ∧ k < 167) → ¬ (188 ≤ k ∧ k < 204) → upd (upd (upd (ms_a ms) (188 + 2 * n) (nI g)) (189 + 2 * n) p2) 6 (nI (n + 1)) k = ms_a ms k := by
        intro k _ h1 _ h2
        rw [upd_ne _ _ h1, upd_ne _ _ (by omega), upd_ne _ _ (by omega)]
      refine ⟨nI (n + 1), cx_set_c_grownCount (cx_set_c_growns cs (upd (cx_c_growns cs) n (nI (g * 10) + p2))) (nI (n + 1)), ms_set_a ms (upd (upd (upd (ms_a ms) (188 + 2 * n) (nI g)) (189 + 2 * n) p2) 6 (nI (n + 1))), ?_, ?_, ?_⟩
      · intro post hp
        unfold wC_X11_grown
        simp only [q_within, q_hasHouse, p_b0, p_all, gs_grownCount_growns, gs_grownCount_grownCount]
        rw [eH, e1, en]
        refine p_no c0 (p_val c1 (p_val c2 (p_yes (nI_lt (b := 8) c3 (by decide)) ?_)))
        rw [nI_ml 10 g, p_put (by decide) _ (show n < 8 by omega), nI_1]
        exact hp
      · intro post hp
        unfold wM_grown
        rw [m_isHouse _ hH]
        simp only [m_isIn, p_b0, p_all]
        refine p_no c0 (p_val c1 (p_val c2 (p_no ?_ ?_)))
        · rw [en]
          intro h
          have := (nI_eq (b := 8) (by omega) (by decide)).mp h
          omega
        · have e3 : upd (ms_a ms) (188 + 2 * n) (nI g) 6 = nI n := by
            rw [upd_ne _ _ (by omega)]
            exact en
          have e4 : upd (upd (ms_a ms) (188 + 2 * n) (nI g)) (189 + 2 * n) p2 6 = nI n := by
            rw [upd_ne _ _ (by omega), upd_ne _ _ (by omega)]
            exact en
          simp only [g_aa, s_aa, upd_eq]
          rw [en, nI_lm 2 n, nI_la 188 (2 * n), nI_clamp (by omega), e3, nI_lm 2 n, nI_la 188 (2 * n), nI_1, nI_clamp (by omega), show 188 + 2 * n + 1 = 189 + 2 * n by omega, e4, nI_1]
          refine ⟨vp_in_nI (by omega) (by decide), vp_in_nI (by omega) (by decide), ?_⟩
          exact hp
      · have ec : (cx_set_c_grownCount (cx_set_c_growns cs (upd (cx_c_growns cs) n (nI (g * 10) + p2))) (nI (n + 1))).1 = (cs.1.1, cs.1.2.1, cs.1.2.2.1, cs.1.2.2.2.1, cs.1.2.2.2.2.1, cs.1.2.2.2.2.2.1, cs.1.2.2.2.2.2.2.1, cs.1.2.2.2.2.2.2.2.1, cs.1.2.2.2.2.2.2.2.2.1, cs.1.2.2.2.2.2.2.2.2.2.1, cs.1.2.2.2.2.2.2.2.2.2.2.1, cs.1.2.2.2.2.2.2.2.2.2.2.2.1, cs.1.2.2.2.2.2.2.2.2.2.2.2.2.1, upd (cx_c_growns cs) n (nI (g * 10) + p2), nI (n + 1), cs.1.2.2.2.2.2.2.2.2.2.2.2.2.2.2.2) := by
          simp only [cx_set_c_grownCount, cx_set_c_growns]
        have e2c : (cx_set_c_grownCount (cx_set_c_growns cs (upd (cx_c_growns cs) n (nI (g * 10) + p2))) (nI (n + 1))).2 = cs.2 := by
          simp only [cx_set_c_grownCount, cx_set_c_growns]
        have hO : RO (oC (cs.1.1, cs.1.2.1, cs.1.2.2.1, cs.1.2.2.2.1, cs.1.2.2.2.2.1, cs.1.2.2.2.2.2.1, cs.1.2.2.2.2.2.2.1, cs.1.2.2.2.2.2.2.2.1, cs.1.2.2.2.2.2.2.2.2.1, cs.1.2.2.2.2.2.2.2.2.2.1, cs.1.2.2.2.2.2.2.2.2.2.2.1, cs.1.2.2.2.2.2.2.2.2.2.2.2.1, cs.1.2.2.2.2.2.2.2.2.2.2.2.2.1, upd (cx_c_growns cs) n (nI (g * 10) + p2), nI (n + 1), cs.1.2.2.2.2.2.2.2.2.2.2.2.2.2.2.2)) (upd (upd (upd (ms_a ms) (188 + 2 * n) (nI g)) (189 + 2 * n) p2) 6 (nI (n + 1))) := by
          have q := RO_grownCount R.1.1.2.1 (v := nI (n + 1)) (nI_pos' (by omega)) (nI_le (b := 8) (by omega) (by decide))
          refine RO_ext (RO_off q ?_) ?_
          · intro i h1 h2
            have := (ix_lt i h2).2.2.2
            by_cases e5 : ix i = 6
            · rw [e5, upd_eq, upd_eq]
            · rw [upd_ne _ _ e5, upd_ne _ _ e5, upd_ne _ _ (by omega), upd_ne _ _ (by omega)]
          · intro i h1 h2
            refine oC_ext (j := 0) ?_ ?_ ?_ ?_ ?_ ?_ ?_ ?_ ?_ ?_ ?_ ?_ i h1 h2 (by omega)
            · intro _ _ _
              simp only [cc_kinds]
            · intro _ _ _
              simp only [cc_skills]
            · intro _ _ _
              simp only [cc_ages]
            · intro _ _ _
              simp only [cc_turns]
            · intro _ _ _
              simp only [cc_costs]
            · intro _ _ _
              simp only [cc_worths]
            · intro _ _ _
              simp only [cc_aheads]
            · intro _
              simp only [cc_textCount]
            · intro _
              simp only [cc_ruling]
            · intro _
              simp only [cc_trialCount]
            · intro _
              simp only [cc_grownCount]
            · intro _
              simp only [cc_count]
        refine Rel_a R e2c ?_ ?_ ?_ (Top_count R.2 hu)
        · rw [ec]
          simp only [cc_texts]
        · rw [ec]
          simp only [cc_textCount]
        rw [ec]
        refine RC_count R.1.1 hu (by simp only [cc_now]) (by simp only [cc_rows]) (by simp only [cc_first]) hO ?_
        show RT (cx_c_trials cs) (upd (cx_c_growns cs) n (nI (g * 10) + p2)) _
        intro i hi
        obtain ⟨q1, q2⟩ := R.1.1.2.2.1 i hi
        refine ⟨?_, ?_⟩
        · rw [upd_ne _ _ (by omega), upd_ne _ _ (by omega), upd_ne _ _ (by omega), upd_ne _ _ (by omega), upd_ne _ _ (by omega), upd_ne _ _ (by omega), upd_ne _ _ (by omega), upd_ne _ _ (by omega), upd_ne _ _ (by omega)]
          exact q1
        · rw [upd_eq]
          intro h
          have h' := (nI_ltI (by omega) (by omega)).mp h
          by_cases ei : i = n
          · subst ei
            rw [upd_ne _ _ (show 188 + 2 * i ≠ 6 by omega), upd_ne _ _ (show 188 + 2 * i ≠ 189 + 2 * i by omega), upd_eq, upd_ne _ _ (show 189 + 2 * i ≠ 6 by omega), upd_eq, upd_eq]
            refine ⟨?_, nI_pos' (by omega), nI_le (b := 5) (by omega) (by decide), c2.1, c2.2⟩
            rw [nI_lm 10 g, Nat.mul_comm]
          · rw [upd_ne _ _ (show 188 + 2 * i ≠ 6 by omega), upd_ne _ _ (show 188 + 2 * i ≠ 189 + 2 * n by omega), upd_ne _ _ (show 188 + 2 * i ≠ 188 + 2 * n by omega), upd_ne _ _ (show 189 + 2 * i ≠ 6 by omega), upd_ne _ _ (show 189 + 2 * i ≠ 189 + 2 * n by omega), upd_ne _ _ (show 189 + 2 * i ≠ 188 + 2 * n by omega)]
            have q := q2 (by rw [en]; exact nI_lt (by omega) (by omega))
            refine ⟨?_, q.2⟩
            show upd (cx_c_growns cs) n (nI (g * 10) + p2) i = _
            rw [upd_ne _ _ ei]
            exact q.1
    · refine ⟨-2, cs, ms, ?_, ?_, R⟩
      · intro post hp
        unfold wC_X11_grown
        simp only [q_within, q_hasHouse, p_b0, p_all]
        rw [eH, e1, en]
        refine p_no c0 (p_inv hp (fun c1 => p_inv hp (fun c2 => p_no ?_ hp)))
        intro h
        exact c ⟨c1, c2, (nI_ltI (b := 8) (by omega) (by decide)).mp h⟩
      · intro post hp
        unfold wM_grown
        rw [m_isHouse _ hH]
        simp only [m_isIn, p_b0, p_all]
        refine p_no c0 (p_inv hp (fun c1 => p_inv hp (fun c2 => p_yes ?_ hp)))
        rw [en]
        have : n = 8 := by
          by_cases h : n < 8
          · exact absurd ⟨c1, c2, h⟩ c
          · omega
        rw [this]
        rfl
theorem sim_told {cs : CS} {ms : MS} (R : Rel cs ms) (p1 p2 : Int32) : ∃ (r : Int32) (cs' : CS) (ms' : MS), rt (wC_X11_told p1 p2 cs) r cs' ∧ rt (wM_told p1 p2 ms) r ms' ∧ Rel cs' ms' := by
  by_cases c : (0 ≤ p1 ∧ p1 ≤ 4) ∧ (0 ≤ p2 ∧ p2 ≤ 9)
  · obtain ⟨c1, c2⟩ := c
    obtain ⟨f, hf, rfl⟩ := p_rng2 (n := 4) (by decide) c1.1 c1.2
    obtain ⟨m, hm, rfl⟩ := p_rng2 (n := 9) (by decide) c2.1 c2.2
    refine ⟨ms_a ms (71 + (10 * f + m)), cs, ms, ?_, ?_, R⟩
    · intro post hp
      unfold wC_X11_told
      simp only [q_isFall, q_isMood, p_b0]
      rw [q_turned (by omega) (by omega), rd_turns R.1.1 (by omega)]
      exact p_val c1 (p_val c2 hp)
    · intro post hp
      unfold wM_told
      simp only [m_isKind, m_isIn, p_b0]
      rw [m_moodBy (by omega) (by omega)]
      exact p_val c1 (p_val c2 hp)
  · refine ⟨-1, cs, ms, ?_, ?_, R⟩
    · intro post hp
      unfold wC_X11_told
      simp only [q_isFall, q_isMood, p_b0]
      exact p_inv hp (fun c1 => p_inv hp (fun c2 => absurd ⟨c1, c2⟩ c))
    · intro post hp
      unfold wM_told
      simp only [m_isKind, m_isIn, p_b0]
      exact p_inv hp (fun c1 => p_inv hp (fun c2 => absurd ⟨c1, c2⟩ c))
theorem sim_fault {cs : CS} {ms : MS} (R : Rel cs ms) (p1 : Int32) : ∃ (r : Int32) (cs' : CS) (ms' : MS), rt (wC_X11_fault p1 cs) r cs' ∧ rt (wM_fault p1 ms) r ms' ∧ Rel cs' ms' := by
  obtain ⟨_, _, _, _, e1, e2⟩ := R.1.2.2.2.2
  have e1' : cx_r_lastFault cs = ms_fault ms := e1
  have e2' : cx_r_lastPlace cs = ms_faultPlace ms := e2
  by_cases c0 : p1 = 0
  · refine ⟨ms_fault ms, cs, ms, ?_, ?_, R⟩
    · intro post hp
      unfold wC_X11_fault
      rw [e1']
      exact ⟨fun _ => hp, fun h => absurd (c0.symm.trans h) (by decide), fun h => absurd c0 h⟩
    · intro post hp
      unfold wM_fault
      exact p_yes c0 hp
  · by_cases c1 : p1 = 1
    · refine ⟨ms_faultPlace ms, cs, ms, ?_, ?_, R⟩
      · intro post hp
        unfold wC_X11_fault
        rw [e2']
        exact ⟨fun h => absurd h c0, fun _ => hp, fun _ h => absurd c1 h⟩
      · intro post hp
        unfold wM_fault
        exact p_no c0 (p_yes c1 hp)
    · refine ⟨-1, cs, ms, ?_, ?_, R⟩
      · intro post hp
        unfold wC_X11_fault
        exact ⟨fun h => absurd h c0, fun h => absurd h c1, fun _ _ => hp⟩
      · intro post hp
        unfold wM_fault
        exact p_no c0 (p_no c1 hp)
theorem sim_is {cs : CS} {ms : MS} (R : Rel cs ms) (p1 : Int32) : ∃ (r : Int32) (cs' : CS) (ms' : MS), rt (wC_X11_is p1 cs) r cs' ∧ rt (wM_is p1 ms) r ms' ∧ Rel cs' ms' := by
  by_cases c0 : p1 = 0
  · subst c0
    refine ⟨ms_a ms 7, cs, ms, ?_, ?_, R⟩
    · intro post hp
      unfold wC_X11_is
      rw [q_today, rd_day R.1.1]
      exact ⟨fun _ => hp, fun h => absurd h (by decide), fun h => absurd rfl h⟩
    · intro post hp
      unfold wM_is
      simp only [m_isIn, p_b0]
      exact p_val (by decide) ⟨vp_in_nI (n := 7) (by decide) (by decide), hp⟩
  · by_cases c1 : p1 = 1
    · subst c1
      refine ⟨ms_a ms 8, cs, ms, ?_, ?_, R⟩
      · intro post hp
        unfold wC_X11_is
        rw [q_see_draw, rd_draw R.1.1]
        exact ⟨fun h => absurd h c0, fun _ => hp, fun _ h => absurd rfl h⟩
      · intro post hp
        unfold wM_is
        simp only [m_isIn, p_b0]
        exact p_val (by decide) ⟨vp_in_nI (n := 8) (by decide) (by decide), hp⟩
    · refine ⟨-2, cs, ms, ?_, ?_, R⟩
      · intro post hp
        unfold wC_X11_is
        exact ⟨fun h => absurd h c0, fun h => absurd h c1, fun _ _ => hp⟩
      · intro post hp
        unfold wM_is
        simp only [m_isIn, p_b0]
        refine p_inv hp (fun c => ?_)
        exfalso
        grind
theorem sim_ofClown {cs : CS} {ms : MS} (R : Rel cs ms) (p1 p2 : Int32) : ∃ (r : Int32) (cs' : CS) (ms' : MS), rt (wC_X11_ofClown p1 p2 cs) r cs' ∧ rt (wM_ofClown p1 p2 ms) r ms' ∧ Rel cs' ms' := by
  have hH := bd_clowns R.1.1
  have eH := rd_clowns R.1.1
  by_cases c : 0 ≤ p1 ∧ p1 < ms_a ms 1
  · obtain ⟨g, hg, rfl⟩ := p_rng (n := 5) (by decide) c.1 (Int32.lt_of_lt_of_le c.2 hH.2)
    have hC : ∀ (post : Int32 → CS → Prop), (((p2 = 0 → post (ms_a ms (49 + 5 * g)) cs) ∧ (p2 = 1 → post (ms_a ms (50 + 5 * g)) cs) ∧ (p2 = 2 → post (ms_a ms (46 + 5 * g)) cs) ∧ (p2 = 3 → post (ms_a ms (47 + 5 * g)) cs) ∧ (p2 = 4 → post (ms_a ms (48 + 5 * g)) cs) ∧ (¬ p2 = 0 → ¬ p2 = 1 → ¬ p2 = 2 → ¬ p2 = 3 → ¬ p2 = 4 → post (-2) cs))) → wC_X11_ofClown (nI g) p2 cs post := by
      intro post hp
      unfold wC_X11_ofClown
      simp only [q_hasClown, p_b0, p_at (show 5 < 2 ^ 31 by decide) _ hg, q_see_tired hg, q_see_place hg, q_see_falls hg]
      rw [eH, rd_skills R.1.1 hg, rd_ages R.1.1 hg, rd_tired R.1.1 hg, rd_place R.1.1 hg, rd_falls R.1.1 hg]
      exact p_val c hp
    have hM : ∀ (post : Int32 → MS → Prop), (((p2 = 0 → post (ms_a ms (49 + 5 * g)) ms) ∧ (p2 = 1 → post (ms_a ms (50 + 5 * g)) ms) ∧ (p2 = 2 → post (ms_a ms (46 + 5 * g)) ms) ∧ (p2 = 3 → post (ms_a ms (47 + 5 * g)) ms) ∧ (p2 = 4 → post (ms_a ms (48 + 5 * g)) ms) ∧ (¬ p2 = 0 → ¬ p2 = 1 → ¬ p2 = 2 → ¬ p2 = 3 → ¬ p2 = 4 → post (-2) ms))) → wM_ofClown (nI g) p2 ms post := by
      intro post hp
      unfold wM_ofClown
      rw [m_isClown _ hH]
      simp only [p_b0, m_own_tired hg, m_own_at hg, m_own_falls hg, m_own_skill hg, m_own_age hg]
      exact p_val c hp
    by_cases d0 : p2 = 0
    · subst d0
      exact ⟨ms_a ms (49 + 5 * g), cs, ms, fun post hp => hC post (by simpa using hp), fun post hp => hM post (by simpa using hp), R⟩
    by_cases d1 : p2 = 1
    · subst d1
      exact ⟨ms_a ms (50 + 5 * g), cs, ms, fun post hp => hC post (by simpa using hp), fun post hp => hM post (by simpa using hp), R⟩
    by_cases d2 : p2 = 2
    · subst d2
      exact ⟨ms_a ms (46 + 5 * g), cs, ms, fun post hp => hC post (by simpa using hp), fun post hp => hM post (by simpa using hp), R⟩
    by_cases d3 : p2 = 3
    · subst d3
      exact ⟨ms_a ms (47 + 5 * g), cs, ms, fun post hp => hC post (by simpa using hp), fun post hp => hM post (by simpa using hp), R⟩
    by_cases d4 : p2 = 4
    · subst d4
      exact ⟨ms_a ms (48 + 5 * g), cs, ms, fun post hp => hC post (by simpa using hp), fun post hp => hM post (by simpa using hp), R⟩
    exact ⟨-2, cs, ms, fun post hp => hC post ⟨fun h => absurd h d0, fun h => absurd h d1, fun h => absurd h d2, fun h => absurd h d3, fun h => absurd h d4, fun _ _ _ _ _ => hp⟩, fun post hp => hM post ⟨fun h => absurd h d0, fun h => absurd h d1, fun h => absurd h d2, fun h => absurd h d3, fun h => absurd h d4, fun _ _ _ _ _ => hp⟩, R⟩
  · refine ⟨-2, cs, ms, ?_, ?_, R⟩
    · intro post hp
      unfold wC_X11_ofClown
      simp only [q_hasClown, p_b0]
      rw [eH]
      exact p_inv hp (fun c1 => absurd c1 c)
    · intro post hp
      unfold wM_ofClown
      rw [m_isClown _ hH]
      simp only [p_b0]
      exact p_inv hp (fun c1 => absurd c1 c)
