/-! PURE LAYER: decades -/
/-- a deed -/
def Dd (cs : CS) (ms : MS) (cs' : CS) (ms' : MS) : Prop := dC cs cs' ∧ dM ms ms' ∧ RN (cx_c_now cs') (ms_a ms') ∧ fr (ms_a ms) (ms_a ms')
theorem Dd_Rel {cs cs' : CS} {ms ms' : MS} (R : Rel0 cs ms) (D : Dd cs ms cs' ms') : Rel0 cs' ms' := Rel0_d R D.1 D.2.1 D.2.2.1 D.2.2.2
theorem Dd_trans {cs cs1 cs2 : CS} {ms ms1 ms2 : MS} (D : Dd cs ms cs1 ms1) (E : Dd cs1 ms1 cs2 ms2) : Dd cs ms cs2 ms2 := ⟨dC_trans D.1 E.1, dM_trans D.2.1 E.2.1, E.2.2.1, fr_trans D.2.2.2 E.2.2.2⟩
theorem Df_Dd {cs cs' : CS} {ms ms' : MS} (D : Df cs ms cs' ms') : Dd cs ms cs' ms' := ⟨D.1, D.2.1, D.2.2.1, D.2.2.2.1⟩
theorem Dd_refl {cs : CS} {ms : MS} (R : Rel0 cs ms) : Dd cs ms cs ms := ⟨dC_refl _, dM_refl _, R.1.1, fr_refl _⟩
theorem Dd_goes {cs : CS} {ms : MS} (R : Rel0 cs ms) {c : Nat} (hc : c < 5) {v : Int32} (h0 : -1 ≤ v) (h1 : v ≤ 5) : Dd cs ms (cx_set_c_now cs (upd (cx_c_now cs) (29 + c) v)) (ms_set_a ms (upd (ms_a ms) (47 + 5 * c) v)) := by
  refine ⟨dC_now _ _, dM_a _ _, ?_, ?_⟩
  · rw [gs_now_now, g_aa]
    exact RN_place R.1.1 hc h0 h1
  · rw [g_aa]
    exact fr_place _ hc _
theorem s_id_c (S : CS) : cx_set_c_now S (cx_c_now S) = S := rfl
theorem Dd_stay {cs : CS} {ms : MS} (R : Rel0 cs ms) {c : Nat} (hc : c < 5) {v : Int32} (h : ms_a ms (47 + 5 * c) = v) : Dd cs ms cs (ms_set_a ms (upd (ms_a ms) (47 + 5 * c) v)) := by
  rw [upd_id h, s_id]
  exact Dd_refl R
theorem sim_acts {cs : CS} {ms : MS} (R : Rel0 cs ms) : ∃ (cs' : CS) (ms' : MS), Dd cs ms cs' ms' ∧ rv (wC_X2_actsByDraw cs) cs' ∧ (∀ post : MS → Prop, post ms' → wM_anew ms (fun S_3 => wM_happens (ms_a ms 8) S_3 post)) := by
  have bd := bd_draw R.1
  obtain ⟨x, hx, ex⟩ := p_rng2 (n := 30528) (by decide) bd.1 bd.2
  have D1 := Df_cell R (i := 40) (by omega) (by omega) (v := nI (drN x)) (nI_pos' (by have := drN_lt x; omega)) (nI_le (b := 30528) (drN_lt x) (by decide))
  have D1' : Df cs ms (cx_set_c_now cs (upd (cx_c_now cs) 40 (nI (drN x)))) (ms_set_a ms (upd (ms_a ms) 8 (nI (drN x)))) := D1
  have R1 := Df_Rel R D1'
  obtain ⟨cs1, e1⟩ : ∃ z, z = cx_set_c_now cs (upd (cx_c_now cs) 40 (nI (drN x))) := ⟨_, rfl⟩
  obtain ⟨ms1, e2⟩ : ∃ z, z = ms_set_a ms (upd (ms_a ms) 8 (nI (drN x))) := ⟨_, rfl⟩
  rw [← e1, ← e2] at D1' R1
  have bH := bd_houses R1.1
  have bC := bd_clowns R1.1
  obtain ⟨H, hH, eH⟩ := p_rng2 (n := 6) (by decide) bH.1 bH.2
  obtain ⟨C, hC, eC⟩ := p_rng2 (n := 5) (by decide) bC.1 bC.2
  have r6 : k_rem (nI x) 6 = nI (x % 6) := p_rem (d := 6) (by omega) (by decide)
  have r8 : k_rem (nI x) 8 = nI (x % 8) := p_rem (d := 8) (by omega) (by decide)
  have r5 : k_rem (nI x) 5 = nI (x % 5) := p_rem (d := 5) (by omega) (by decide)
  have d6 : nI x / 6 = nI (x / 6) := p_div (d := 6) (by omega) (by decide)
  have rC : k_rem (nI x) (nI C) = nI (x % C) := p_rem (by omega) (by omega)
  have rH : k_rem (nI (x / 6)) (nI H) = nI (x / 6 % H) := p_rem (by omega) (by omega)
  have eqN : ∀ a b : Nat, a < 100 → b < 100 → (nI a = nI b) = (a = b) := fun a b ha hb => propext (nI_eq (by omega) (by omega))
  -- the two sides behind the draw
  have cls : ∀ post : CS → Prop, ((nI (x % 6) = 5 → wC_X2_canPass cs1 (fun r_31 S_32 => ((r_31 = 0 → post S_32) ∧ (¬ (r_31 = 0) → wC_X2_passes S_32 (fun S_35 => post S_35))))) ∧ (¬ (nI (x % 6) = 5) → ((nI C ≤ 0 → post cs1) ∧ (¬ (nI C ≤ 0) → (¬ nI C = 0 ∧ ((nI (x % 6) = 0 → ((nI H ≤ 0 → post cs1) ∧ (¬ (nI H ≤ 0) → (¬ nI H = 0 ∧ wC_X2_canGo (nI (x % C)) (nI (x / 6 % H)) cs1 (fun r_23 S_24 => ((r_23 = 0 → post S_24) ∧ (¬ (r_23 = 0) → (¬ nI H = 0 ∧ wC_X2_goes (nI (x % C)) (nI (x / 6 % H)) S_24 (fun S_27 => post S_27))))))))) ∧ (¬ (nI (x % 6) = 0) → ((nI (x % 6) = 4 → ((nI (x % 8) = 0 → wC_X2_canRest (nI (x % C)) cs1 (fun r_17 S_18 => ((r_17 = 0 → post S_18) ∧ (¬ (r_17 = 0) → wC_X2_goes (nI (x % C)) (-1) S_18 (fun S_21 => post S_21))))) ∧ (¬ (nI (x % 8) = 0) → post cs1))) ∧ (¬ (nI (x % 6) = 4) → wC_X2_canFall (nI (x % C)) (nI (x % 5)) cs1 (fun r_11 S_12 => ((r_11 = 0 → post S_12) ∧ (¬ (r_11 = 0) → wC_X2_falls (nI (x % C)) (nI (x % 5)) S_12 (fun S_15 => post S_15))))))))))))) → wC_X2_actsByDraw cs post := by
    intro post hp
    unfold wC_X2_actsByDraw
    rw [q_draws hx (by rw [rd_draw R.1]; exact ex), ← e1, q_clownCount (by rw [rd_clowns R1.1]; exact bC.2), q_houseCount (by rw [rd_houses R1.1]; exact bH.2), rd_clowns R1.1, rd_houses R1.1, eC, eH, r6, r8, r5, d6, rC, rH]
    exact hp
  have ref : ∀ post : MS → Prop, ((nI (x % 6) = 5 → ((9999 ≤ ms_a ms1 7 → post ms1) ∧ (¬ (9999 ≤ ms_a ms1 7) → wM_pass ms1 (fun S_20 => post S_20)))) ∧ (¬ (nI (x % 6) = 5) → ((nI C = 0 → post ms1) ∧ (¬ (nI C = 0) → (¬ nI C = 0 ∧ ((nI (x % 6) = 0 → ((nI H ≤ 0 → post ms1) ∧ (¬ (nI H ≤ 0) → (¬ nI H = 0 ∧ wM_lay (nI (x % C)) 1 (nI (x / 6 % H)) ms1 (fun S_15 => post S_15))))) ∧ (¬ (nI (x % 6) = 0) → ((nI (x % 6) = 4 → ((nI (x % 8) = 0 → wM_lay (nI (x % C)) 1 (-1) ms1 (fun S_12 => post S_12)) ∧ (¬ (nI (x % 8) = 0) → post ms1))) ∧ (¬ (nI (x % 6) = 4) → wM_canFall (nI (x % C)) ms1 (fun r_5 S_6 => ((r_5 = 0 → post S_6) ∧ (¬ (r_5 = 0) → wM_fallNow (nI (x % C)) (nI (x % 5)) S_6 (fun S_9 => post S_9))))))))))))) → wM_anew ms (fun S_3 => wM_happens (ms_a ms 8) S_3 post) := by
    intro post hp
    rw [m_anew hx ex, ← e2, ex]
    unfold wM_happens
    rw [eC, eH, r6, r8, r5, d6, rC, rH]
    exact hp
  have m6 : x % 6 < 6 := Nat.mod_lt _ (by decide)
  by_cases k5 : x % 6 = 5
  · have q5 : nI (x % 6) = 5 := by rw [k5]; rfl
    by_cases h7 : ms_a ms1 7 < 9999
    · obtain ⟨cs2, ms2, D2, _, _, hC2, hM2⟩ := sim_pass R1 h7
      refine ⟨cs2, ms2, Df_Dd (Df_trans D1' D2), ?_, ?_⟩
      · intro post hp
        refine cls post (p_yes q5 ?_)
        unfold wC_X2_canPass
        rw [q_today, rd_day R1.1]
        exact p_no (Int32.not_le.mpr h7) (p_no (by decide) (hC2 _ hp))
      · intro post hp
        exact ref post (p_yes q5 (p_no (Int32.not_le.mpr h7) (hM2 _ hp)))
    · refine ⟨cs1, ms1, Df_Dd D1', ?_, ?_⟩
      · intro post hp
        refine cls post (p_yes q5 ?_)
        unfold wC_X2_canPass
        rw [q_today, rd_day R1.1]
        exact p_yes (Int32.not_lt.mp h7) (p_yes rfl hp)
      · intro post hp
        exact ref post (p_yes q5 (p_yes (Int32.not_lt.mp h7) hp))
  · have q5 : ¬ nI (x % 6) = 5 := by
      intro e
      have := (nI_eq (b := 5) (by omega) (by decide)).mp e
      omega
    by_cases kC : C = 0
    · refine ⟨cs1, ms1, Df_Dd D1', ?_, ?_⟩
      · intro post hp
        exact cls post (p_no q5 (p_yes (by rw [kC]; decide) hp))
      · intro post hp
        exact ref post (p_no q5 (p_yes (by rw [kC]; rfl) hp))
    · have nC : ¬ nI C = 0 := nI_ne0 (by omega) (by omega)
      have nC' : ¬ nI C ≤ 0 := nI_nle (by omega) (by omega)
      have hcC : x % C < C := Nat.mod_lt _ (by omega)
      have hc5 : x % C < 5 := by omega
      have c1 : 0 ≤ nI (x % C) ∧ nI (x % C) < ms_a ms1 1 := by
        rw [eC]
        exact ⟨nI_pos' (by omega), nI_lt hcC (by omega)⟩
      have bp := bd_place R1.1 hc5
      by_cases k0 : x % 6 = 0
      · have q0 : nI (x % 6) = 0 := by rw [k0]; rfl
        by_cases kH : H = 0
        · refine ⟨cs1, ms1, Df_Dd D1', ?_, ?_⟩
          · intro post hp
            exact cls post (p_no q5 (p_no nC' ⟨nC, p_yes q0 (p_yes (by rw [kH]; decide) hp)⟩))
          · intro post hp
            exact ref post (p_no q5 (p_no nC ⟨nC, p_yes q0 (p_yes (by rw [kH]; decide) hp)⟩))
        · have nH : ¬ nI H = 0 := nI_ne0 (by omega) (by omega)
          have nH' : ¬ nI H ≤ 0 := nI_nle (by omega) (by omega)
          have hhH : x / 6 % H < H := Nat.mod_lt _ (by omega)
          have c2 : 0 ≤ nI (x / 6 % H) ∧ nI (x / 6 % H) < ms_a ms1 0 := by
            rw [eH]
            exact ⟨nI_pos' (by omega), nI_lt hhH (by omega)⟩
          have hM : ∀ post : MS → Prop, post (ms_set_a ms1 (upd (ms_a ms1) (47 + 5 * (x % C)) (nI (x / 6 % H)))) → wM_anew ms (fun S_3 => wM_happens (ms_a ms 8) S_3 post) := by
            intro post hp
            refine ref post (p_no q5 (p_no nC ⟨nC, p_yes q0 (p_no nH' ⟨nH, ?_⟩)⟩))
            rw [m_lay_at hc5]
            exact hp
          by_cases kp : ms_a ms1 (47 + 5 * (x % C)) = nI (x / 6 % H)
          · refine ⟨cs1, _, Dd_trans (Df_Dd D1') (Dd_stay R1 hc5 kp), ?_, hM⟩
            intro post hp
            refine cls post (p_no q5 (p_no nC' ⟨nC, p_yes q0 (p_no nH' ⟨nH, ?_⟩)⟩))
            unfold wC_X2_canGo
            simp only [q_hasClown, q_hasHouse, p_b0, q_see_place hc5]
            rw [rd_clowns R1.1, rd_houses R1.1, rd_place R1.1 hc5]
            exact p_val c1 (p_val c2 (p_yes kp (p_yes trivial hp)))
          · refine ⟨_, _, Dd_trans (Df_Dd D1') (Dd_goes R1 hc5 (v := nI (x / 6 % H)) (Int32.le_trans (by decide) (nI_pos' (by omega))) (nI_le (b := 5) (by omega) (by decide))), ?_, hM⟩
            intro post hp
            refine cls post (p_no q5 (p_no nC' ⟨nC, p_yes q0 (p_no nH' ⟨nH, ?_⟩)⟩))
            unfold wC_X2_canGo
            simp only [q_hasClown, q_hasHouse, p_b0, q_see_place hc5]
            rw [rd_clowns R1.1, rd_houses R1.1, rd_place R1.1 hc5]
            refine p_val c1 (p_val c2 (p_no kp (p_no (by decide) ⟨nH, ?_⟩)))
            rw [q_goes hc5]
            exact hp
      · have q0 : ¬ nI (x % 6) = 0 := nI_ne0 (by omega) (by omega)
        by_cases k4 : x % 6 = 4
        · have q4 : nI (x % 6) = 4 := by rw [k4]; rfl
          by_cases k8 : x % 8 = 0
          · have q8 : nI (x % 8) = 0 := by rw [k8]; rfl
            have hM : ∀ post : MS → Prop, post (ms_set_a ms1 (upd (ms_a ms1) (47 + 5 * (x % C)) (-1))) → wM_anew ms (fun S_3 => wM_happens (ms_a ms 8) S_3 post) := by
              intro post hp
              refine ref post (p_no q5 (p_no nC ⟨nC, p_no q0 (p_yes q4 (p_yes q8 ?_))⟩))
              rw [m_lay_at hc5]
              exact hp
            have hcl : ∀ post : Int32 → CS → Prop, post (if (0 ≤ nI (x % C) ∧ nI (x % C) < ms_a ms1 1) ∧ ¬ ms_a ms1 (47 + 5 * (x % C)) = -1 then 1 else 0) cs1 → wC_X2_canRest (nI (x % C)) cs1 post := by
              intro post hp
              unfold wC_X2_canRest
              rw [q_isOutR R1, nI_clamp (by omega)]
              simp only [p_nb, true_and]
              exact hp
            by_cases kp : ms_a ms1 (47 + 5 * (x % C)) = -1
            · refine ⟨cs1, _, Dd_trans (Df_Dd D1') (Dd_stay R1 hc5 kp), ?_, hM⟩
              intro post hp
              refine cls post (p_no q5 (p_no nC' ⟨nC, p_no q0 (p_yes q4 (p_yes q8 (hcl _ ?_)))⟩))
              rw [p_b0]
              exact ⟨fun _ => hp, fun n => absurd (fun z => z.2 kp) n⟩
            · refine ⟨_, _, Dd_trans (Df_Dd D1') (Dd_goes R1 hc5 (v := -1) (by decide) (by decide)), ?_, hM⟩
              intro post hp
              refine cls post (p_no q5 (p_no nC' ⟨nC, p_no q0 (p_yes q4 (p_yes q8 (hcl _ ?_)))⟩))
              rw [p_b0]
              refine p_val ⟨c1, kp⟩ ?_
              rw [q_goes hc5]
              exact hp
          · have q8 : ¬ nI (x % 8) = 0 := nI_ne0 (by omega) (by omega)
            refine ⟨cs1, ms1, Df_Dd D1', ?_, ?_⟩
            · intro post hp
              exact cls post (p_no q5 (p_no nC' ⟨nC, p_no q0 (p_yes q4 (p_no q8 hp))⟩))
            · intro post hp
              exact ref post (p_no q5 (p_no nC ⟨nC, p_no q0 (p_yes q4 (p_no q8 hp))⟩))
        · have q4 : ¬ nI (x % 6) = 4 := by
            intro e
            have := (nI_eq (b := 4) (by omega) (by decide)).mp e
            omega
          have h5 : x % 5 < 5 := Nat.mod_lt _ (by decide)
          have c5 : 0 ≤ nI (x % 5) ∧ nI (x % 5) ≤ 4 := ⟨nI_pos' (by omega), nI_le (b := 4) (by omega) (by decide)⟩
          have hcl : ∀ post : CS → Prop, ((9 ≤ ms_a ms1 (46 + 5 * (x % C)) ∨ ms_a ms1 (47 + 5 * (x % C)) = -1 → post cs1) ∧ (¬ (9 ≤ ms_a ms1 (46 + 5 * (x % C)) ∨ ms_a ms1 (47 + 5 * (x % C)) = -1) → wC_X2_falls (nI (x % C)) (nI (x % 5)) cs1 post)) → wC_X2_actsByDraw cs post := by
            intro post hp
            refine cls post (p_no q5 (p_no nC' ⟨nC, p_no q0 (p_no q4 ?_)⟩))
            unfold wC_X2_canFall
            rw [q_isFall, p_b0, q_isOutR R1, nI_clamp (by omega)]
            simp only [p_b0, q_see_tired hc5, rd_tired R1.1 hc5]
            refine p_val c5 ?_
            by_cases kp : ms_a ms1 (47 + 5 * (x % C)) = -1
            · exact ⟨fun _ => p_yes trivial (hp.1 (Or.inr kp)), fun n => absurd (fun z => z.2 kp) n⟩
            · refine p_val ⟨c1, kp⟩ (p_two (fun k9 => p_yes trivial (hp.1 (Or.inl k9))) (fun k9 => p_no (by decide) (hp.2 ?_)))
              rintro (z | z)
              · exact k9 z
              · exact kp z
          have hrf : ∀ post : MS → Prop, ((9 ≤ ms_a ms1 (46 + 5 * (x % C)) ∨ ms_a ms1 (47 + 5 * (x % C)) = -1 → post ms1) ∧ (¬ (9 ≤ ms_a ms1 (46 + 5 * (x % C)) ∨ ms_a ms1 (47 + 5 * (x % C)) = -1) → wM_fallNow (nI (x % C)) (nI (x % 5)) ms1 post)) → wM_anew ms (fun S_3 => wM_happens (ms_a ms 8) S_3 post) := by
            intro post hp
            refine ref post (p_no q5 (p_no nC ⟨nC, p_no q0 (p_no q4 ?_)⟩))
            unfold wM_canFall
            rw [m_isAtHouse bC, nI_clamp (by omega)]
            simp only [p_b0, m_own_tired hc5]
            by_cases kp : ms_a ms1 (47 + 5 * (x % C)) = -1
            · exact ⟨fun _ => p_yes trivial (hp.1 (Or.inr kp)), fun n => absurd (fun z => z.2 kp) n⟩
            · refine p_val ⟨c1, kp⟩ (p_two (fun k9 => p_yes trivial (hp.1 (Or.inl k9))) (fun k9 => p_no (by decide) (hp.2 ?_)))
              rintro (z | z)
              · exact k9 z
              · exact kp z
          by_cases kk : 9 ≤ ms_a ms1 (46 + 5 * (x % C)) ∨ ms_a ms1 (47 + 5 * (x % C)) = -1
          · refine ⟨cs1, ms1, Df_Dd D1', ?_, ?_⟩
            · intro post hp
              exact hcl post (p_yes kk hp)
            · intro post hp
              exact hrf post (p_yes kk hp)
          · have kp : ¬ ms_a ms1 (47 + 5 * (x % C)) = -1 := fun z => kk (Or.inr z)
            have k9 : ms_a ms1 (46 + 5 * (x % C)) < 9 := Int32.not_le.mp (fun z => kk (Or.inl z))
            obtain ⟨c', g, hc', hg, e3, e4⟩ := out_at R1 (p := nI (x % C)) ⟨c1, by rw [nI_clamp (by omega)]; exact kp⟩
            have e5 : c' = x % C := ((nI_eq (by omega) (by omega)).mp e3).symm
            subst e5
            obtain ⟨cs2, ms2, D2, hC2, hM2⟩ := sim_falls R1 hc5 h5 hg e4 k9
            refine ⟨cs2, ms2, Df_Dd (Df_trans D1' D2), ?_, ?_⟩
            · intro post hp
              exact hcl post (p_no kk (hC2 post hp))
            · intro post hp
              exact hrf post (p_no kk (hM2 post hp))
theorem sim_dec {n : Nat} (hn : n ≤ 40) : ∀ (d i : Nat) (cs : CS) (ms : MS), i + d = n → Rel0 cs ms → Fresh (ms_a ms) → ∃ (cs' : CS) (ms' : MS), Rel cs' ms' ∧ (∀ post : Int32 → CS → Prop, post (ms_a ms' 7) cs' → wC_X11_decades_59 post (d + 1) (nI n) (nI i) cs) ∧ (∀ post : Int32 → MS → Prop, post (ms_a ms' 7) ms' → wM_decades_43 post (d + 1) (nI n) (nI i) ms) := by
  intro d
  induction d with
  | zero =>
    intro i cs ms e R F
    have ei : i = n := by omega
    subst ei
    refine ⟨cs, ms, ⟨R, Top_fresh F⟩, ?_, ?_⟩
    · intro post hp
      rw [wC_X11_decades_59, q_today, rd_day R.1]
      exact p_yes (Int32.le_refl _) hp
    · intro post hp
      rw [wM_decades_43]
      exact p_yes (Int32.le_refl _) hp
  | succ d ih =>
    intro i cs ms e R F
    obtain ⟨cs1, ms1, D, hC, hM⟩ := sim_acts R
    obtain ⟨cs2, ms2, R2, hC2, hM2⟩ := ih (i + 1) cs1 ms1 (by omega) (Dd_Rel R D) (fr_Fresh D.2.2.2 F)
    refine ⟨cs2, ms2, R2, ?_, ?_⟩
    · intro post hp
      rw [wC_X11_decades_59, nI_1]
      exact p_no (nI_ge (by omega) (by omega)) (hC _ (hC2 post hp))
    · intro post hp
      rw [wM_decades_43, nI_1]
      exact p_no (nI_ge (by omega) (by omega)) (hM _ (hM2 post hp))
theorem sim_decades {cs : CS} {ms : MS} (R : Rel cs ms) (p1 p2 : Int32) : ∃ (r : Int32) (cs' : CS) (ms' : MS), rt (wC_X11_decades p1 p2 cs) r cs' ∧ rt (wM_decades p1 p2 ms) r ms' ∧ Rel cs' ms' := by
  by_cases c : (0 ≤ p1 ∧ p1 ≤ 9999) ∧ (1 ≤ p2 ∧ p2 ≤ 40)
  · obtain ⟨c1, c2⟩ := c
    obtain ⟨s, hs, rfl⟩ := p_rng2 (n := 9999) (by decide) c1.1 c1.2
    obtain ⟨n, hn, rfl⟩ := p_rng2 (n := 40) (by decide) (Int32.le_trans (by decide) c2.1) c2.2
    obtain ⟨cs1, ms1, K1, K2, R1, F1, N1, A1⟩ := sim_keep R
    have D1 := Df_cell R1.1 (i := 40) (by omega) (by omega) (v := nI (s * 2 + 179)) (nI_pos' (by omega)) (nI_le (b := 30528) (by omega) (by decide))
    have D1' : Df cs1 ms1 (cx_set_c_now cs1 (upd (cx_c_now cs1) 40 (nI (s * 2 + 179)))) (ms_set_a ms1 (upd (ms_a ms1) 8 (nI (s * 2 + 179)))) := D1
    obtain ⟨cs2, ms2, R2, hC2, hM2⟩ := sim_dec hn n 0 _ _ (by omega) (Df_Rel R1.1 D1') (fr_Fresh D1'.2.2.2.1 F1)
    refine ⟨ms_a ms2 7, cs2, ms2, ?_, ?_, R2⟩
    · intro post hp
      unfold wC_X11_decades
      simp only [q_within, p_b0]
      refine p_val c1 (p_val c2 (K1 _ ?_))
      rw [nI_ml 2 s, nI_al 179 (s * 2), q_set_draw]
      exact ⟨n + 1, hC2 post hp⟩
    · intro post hp
      unfold wM_decades
      simp only [m_isIn, p_b0]
      refine p_val c1 (p_val c2 (K2 _ ?_))
      rw [nI_ml 2 s, nI_al 179 (s * 2), p_all]
      exact ⟨n + 1, hM2 post hp⟩
  · refine ⟨-1, cs, ms, ?_, ?_, R⟩
    · intro post hp
      unfold wC_X11_decades
      simp only [q_within, p_b0]
      exact p_inv hp (fun c1 => p_inv hp (fun c2 => absurd ⟨c1, c2⟩ c))
    · intro post hp
      unfold wM_decades
      simp only [m_isIn, p_b0]
      exact p_inv hp (fun c1 => p_inv hp (fun c2 => absurd ⟨c1, c2⟩ c))
