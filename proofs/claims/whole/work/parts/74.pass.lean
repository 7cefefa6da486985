/-! PURE LAYER: a day passes -/
def frP (a a' : Nat → Int32) : Prop := ∀ k, k < 7 ∨ 71 ≤ k → a' k = a k
theorem frP_trans {a b c : Nat → Int32} (h : frP a b) (g : frP b c) : frP a c := fun k hk => (g k hk).trans (h k hk)
theorem Df_refl {cs : CS} {ms : MS} (R : Rel0 cs ms) : Df cs ms cs ms := ⟨dC_refl _, dM_refl _, R.1.1, fr_refl _, fun _ _ => rfl⟩
theorem pass1 {H : Nat} (hH : H ≤ 6) : ∀ (d i : Nat) (cs : CS) (ms : MS), i + d = H → Rel0 cs ms → ms_a ms 0 = nI H → ∃ (cs' : CS) (ms' : MS), Df cs ms cs' ms' ∧ frP (ms_a ms) (ms_a ms') ∧ ms_a ms' 7 = ms_a ms 7 ∧ (∀ post : CS → Prop, (∃ k : Nat, wC_X2_passes_69 post k 0 cs') → wC_X2_passes_2 post (d + 1) (nI i) cs) ∧ (∀ post : MS → Prop, (∃ k : Nat, wM_pass_51 post k 0 ms') → wM_pass_2 post (d + 1) (nI i) ms) := by
  intro d
  induction d with
  | zero =>
    intro i cs ms e R eH
    have ei : i = H := by omega
    subst ei
    refine ⟨cs, ms, Df_refl R, fun _ _ => rfl, rfl, ?_, ?_⟩
    · intro post hp
      rw [wC_X2_passes_2, q_houseCount (by rw [rd_houses R.1]; exact (bd_houses R.1).2), rd_houses R.1, eH]
      exact p_yes (Int32.le_refl _) hp
    · intro post hp
      rw [wM_pass_2, eH]
      exact p_yes (Int32.le_refl _) hp
  | succ d ih =>
    intro i cs ms e R eH
    have hi : i < 6 := by omega
    obtain ⟨tx, hx, htx⟩ := q_textRule R
    obtain ⟨r, cs1, ms1, hr, s1, s2, hC, hM⟩ := sim_growing R hi hx
    have R1 : Rel0 cs1 ms1 := Rel0_s R s1 s2
    have bg := bd_grief R.1 hi
    have g0 : 0 ≤ ms_a ms (10 + 6 * i) + r := by
      generalize ms_a ms (10 + 6 * i) = x at bg
      grind
    have hb := hd_bd (r := ms_a ms (10 + 6 * i) + r) (top := 99) (by decide)
    have D1 := Df_cell R1 (i := i) (by omega) (by omega) (v := hd (ms_a ms (10 + 6 * i) + r) 99) (by rw [lo_grief hi]; exact hb.1) (by rw [hi_grief hi]; exact hb.2)
    rw [ix_grief hi] at D1
    have R2 := Df_Rel R1 D1
    have eH2 : ms_a (ms_set_a ms1 (upd (ms_a ms1) (10 + 6 * i) (hd (ms_a ms (10 + 6 * i) + r) 99))) 0 = nI H := by
      rw [g_aa, upd_ne _ _ (by omega), s2.1]
      exact eH
    obtain ⟨cs', ms', D2, f2, e7, hC2, hM2⟩ := ih (i + 1) _ _ (by omega) R2 eH2
    refine ⟨cs', ms', Df_trans (Df_s (Df_refl R) s1 s2) (Df_trans D1 D2), ?_, ?_, ?_, ?_⟩
    · intro k hk
      rw [f2 k hk, g_aa, upd_ne _ _ (by omega), s2.1]
    · rw [e7, g_aa, upd_ne _ _ (by omega), s2.1]
    · intro post hp
      rw [wC_X2_passes_2, q_houseCount (by rw [rd_houses R.1]; exact (bd_houses R.1).2), rd_houses R.1, eH]
      refine p_no (nI_ge (by omega) (by omega)) (htx _ (hC _ ?_))
      rw [q_see_grief hi, rd_grief R1.1 hi, s2.1, hd_min g0, q_set_grief hi, nI_1]
      exact hC2 post hp
    · intro post hp
      rw [wM_pass_2, eH]
      refine p_no (nI_ge (by omega) (by omega)) ?_
      rw [m_get_grief hi]
      refine hM _ ?_
      rw [m_cut, m_put_grief hi, nI_1]
      exact hM2 post hp
theorem pass2 {C : Nat} (hC5 : C ≤ 5) : ∀ (d i : Nat) (cs : CS) (ms : MS), i + d = C → Rel0 cs ms → ms_a ms 1 = nI C → ms_a ms 7 < 9999 → ∃ (cs' : CS) (ms' : MS), Df cs ms cs' ms' ∧ frP (ms_a ms) (ms_a ms') ∧ ms_a ms' 7 = ms_a ms 7 + 1 ∧ (∀ post : CS → Prop, post cs' → wC_X2_passes_69 post (d + 1) (nI i) cs) ∧ (∀ post : MS → Prop, post ms' → wM_pass_51 post (d + 1) (nI i) ms) := by
  intro d
  induction d with
  | zero =>
    intro i cs ms e R eC e7
    have ei : i = C := by omega
    subst ei
    have bd := bd_day R.1
    have d0 : 0 ≤ ms_a ms 7 + 1 ∧ ms_a ms 7 + 1 ≤ 9999 := by
      generalize ms_a ms 7 = x at bd e7
      grind
    have D1 := Df_cell R (i := 39) (by omega) (by omega) (v := ms_a ms 7 + 1) d0.1 d0.2
    have e39 : ix 39 = 7 := rfl
    rw [e39] at D1
    refine ⟨_, _, D1, ?_, ?_, ?_, ?_⟩
    · intro k hk
      rw [g_aa, upd_ne _ _ (by omega)]
    · rw [g_aa, upd_eq]
    · intro post hp
      rw [wC_X2_passes_69, q_clownCount (by rw [rd_clowns R.1]; exact (bd_clowns R.1).2), rd_clowns R.1, eC]
      refine p_yes (Int32.le_refl _) ?_
      rw [q_today, rd_day R.1, q_set_today]
      exact hp
    · intro post hp
      rw [wM_pass_51, eC]
      refine p_yes (Int32.le_refl _) ?_
      rw [p_all]
      exact hp
  | succ d ih =>
    intro i cs ms e R eC e7
    have hi : i < 5 := by omega
    have bt := bd_tired R.1 hi
    obtain ⟨t, ht, et⟩ : ∃ t : Int32, (t = 1 ∨ t = 3) ∧ ((ms_a ms (47 + 5 * i) = -1 → t = 3) ∧ (¬ ms_a ms (47 + 5 * i) = -1 → t = 1)) := by
      by_cases h : ms_a ms (47 + 5 * i) = -1
      · exact ⟨3, Or.inr rfl, fun _ => rfl, fun n => absurd h n⟩
      · exact ⟨1, Or.inl rfl, fun n => absurd n h, fun _ => rfl⟩
    have le : ms_a ms (46 + 5 * i) - t ≤ 9 := by
      generalize ms_a ms (46 + 5 * i) = x at bt
      rcases ht with h | h <;> subst h <;> grind
    have hm : (if ms_a ms (46 + 5 * i) - t < 0 then 0 else ms_a ms (46 + 5 * i) - t) = hd (ms_a ms (46 + 5 * i) - t) 9 := by
      unfold hd
      by_cases a : ms_a ms (46 + 5 * i) - t < 0
      · rw [if_pos a, if_pos a]
      · rw [if_neg a, if_neg a, if_neg (Int32.not_lt.mpr le)]
    have hb := hd_bd (r := ms_a ms (46 + 5 * i) - t) (top := 9) (by decide)
    have D1 := Df_cell R (i := 24 + i) (by omega) (by omega) (v := hd (ms_a ms (46 + 5 * i) - t) 9) (by rw [lo_tired hi]; exact hb.1) (by rw [hi_tired hi]; exact hb.2)
    rw [ix_tired hi] at D1
    have R1 := Df_Rel R D1
    obtain ⟨cs', ms', D2, f2, e2, hC2, hM2⟩ := ih (i + 1) _ _ (by omega) R1 (by rw [g_aa, upd_ne _ _ (by omega)]; exact eC) (by rw [g_aa, upd_ne _ _ (by omega)]; exact e7)
    refine ⟨cs', ms', Df_trans D1 D2, ?_, ?_, ?_, ?_⟩
    · intro k hk
      rw [f2 k hk, g_aa, upd_ne _ _ (by omega)]
    · rw [e2, g_aa, upd_ne _ _ (by omega)]
    · intro post hp
      have go : ∀ t', t' = t → wC_X2_passes_96 post (wC_X2_passes_69 post (d + 1)) (nI i) t' cs := by
        intro t' e'
        rw [e']
        unfold wC_X2_passes_96
        rw [q_see_tired hi, rd_tired R.1 hi, hm, q_set_tired hi, nI_1]
        exact hC2 post hp
      rw [wC_X2_passes_69, q_clownCount (by rw [rd_clowns R.1]; exact (bd_clowns R.1).2), rd_clowns R.1, eC]
      refine p_no (nI_ge (by omega) (by omega)) ?_
      rw [q_isOutR R, p_b0, nI_clamp (by omega), eC]
      have c1 : 0 ≤ nI i ∧ nI i < nI C := ⟨nI_pos' (by omega), nI_lt (by omega) (by omega)⟩
      by_cases h : ms_a ms (47 + 5 * i) = -1
      · exact ⟨fun _ => go 3 (et.1 h).symm, fun n => absurd (fun z => z.2 h) n⟩
      · exact p_val ⟨c1, h⟩ (go 1 (et.2 h).symm)
    · intro post hp
      have go : ∀ t', t' = t → wM_pass_85 post (wM_pass_51 post (d + 1)) (nI i) (nI i) 0 (ms_a ms (46 + 5 * i)) t' ms := by
        intro t' e'
        rw [e']
        unfold wM_pass_85
        rw [m_cut, m_lay_tired hi, nI_1]
        exact hM2 post hp
      rw [wM_pass_51, eC]
      refine p_no (nI_ge (by omega) (by omega)) ?_
      rw [m_own_tired hi, m_own_at hi]
      exact p_two (fun h => go 3 (et.1 h).symm) (fun h => go 1 (et.2 h).symm)
theorem sim_pass {cs : CS} {ms : MS} (R : Rel0 cs ms) (h7 : ms_a ms 7 < 9999) : ∃ (cs' : CS) (ms' : MS), Df cs ms cs' ms' ∧ frP (ms_a ms) (ms_a ms') ∧ ms_a ms' 7 = ms_a ms 7 + 1 ∧ rv (wC_X2_passes cs) cs' ∧ rv (wM_pass ms) ms' := by
  have bH := bd_houses R.1
  have bC := bd_clowns R.1
  obtain ⟨H, hH, eH⟩ := p_rng2 (n := 6) (by decide) bH.1 bH.2
  obtain ⟨C, hC, eC⟩ := p_rng2 (n := 5) (by decide) bC.1 bC.2
  obtain ⟨cs1, ms1, D1, f1, e1, hC1, hM1⟩ := pass1 hH H 0 cs ms (by omega) R eH
  obtain ⟨cs2, ms2, D2, f2, e2, hC2, hM2⟩ := pass2 hC C 0 cs1 ms1 (by omega) (Df_Rel R D1) (by rw [f1 1 (by omega)]; exact eC) (by rw [e1]; exact h7)
  refine ⟨cs2, ms2, Df_trans D1 D2, frP_trans f1 f2, by rw [e2, e1], ?_, ?_⟩
  · intro post hp
    exact ⟨H + 1, hC1 post ⟨C + 1, hC2 post hp⟩⟩
  · intro post hp
    exact ⟨H + 1, hM1 post ⟨C + 1, hM2 post hp⟩⟩
theorem sim_days {n : Nat} (hn : n ≤ 60) : ∀ (d i : Nat) (cs : CS) (ms : MS), i + d = n → Rel cs ms → ∃ (j : Nat) (cs' : CS) (ms' : MS), j ≤ n ∧ Rel cs' ms' ∧ (ms_a ms 7 + nI d ≤ 9999 → j = n) ∧ (∀ post : Int32 → CS → Prop, post (nI j) cs' → wC_X11_passDays_2 post (d + 1) (nI n) (nI i) cs) ∧ (∀ post : Int32 → MS → Prop, post (if j = n then 1 else 0) ms' → wM_arePassed_2 post (d + 1) (nI n) (nI i) ms) ∧ kT cs ms cs' ms' := by
  intro d
  induction d with
  | zero =>
    intro i cs ms e R
    have ei : i = n := by omega
    subst ei
    refine ⟨i, cs, ms, Nat.le_refl _, R, fun _ => rfl, ?_, ?_, rfl, rfl⟩
    · intro post hp
      rw [wC_X11_passDays_2]
      exact p_yes (Int32.le_refl _) hp
    · intro post hp
      rw [wM_arePassed_2]
      rw [if_pos rfl] at hp
      exact p_yes (Int32.le_refl _) hp
  | succ d ih =>
    intro i cs ms e R
    have bd := bd_day R.1.1
    by_cases h7 : ms_a ms 7 = 9999
    · refine ⟨i, cs, ms, by omega, R, ?_, ?_, ?_, rfl, rfl⟩
      · intro q
        exfalso
        obtain ⟨y, hy, ey⟩ := p_rng2 (n := 9999) (by decide) bd.1 bd.2
        rw [ey, nI_add] at q
        have q' := (nI_leI (b := 9999) (by omega) (by decide)).mp q
        rw [ey] at h7
        have := (nI_eq (b := 9999) (by omega) (by decide)).mp h7
        omega
      · intro post hp
        rw [wC_X11_passDays_2]
        refine p_no (nI_ge (by omega) (by omega)) ?_
        unfold wC_X2_canPass
        rw [q_today, rd_day R.1.1, h7]
        exact p_yes (by decide) (p_yes rfl hp)
      · intro post hp
        rw [wM_arePassed_2]
        rw [if_neg (by omega)] at hp
        exact p_no (nI_ge (by omega) (by omega)) (p_yes h7 hp)
    · have lt : ms_a ms 7 < 9999 := by
        generalize ms_a ms 7 = x at bd h7
        grind
      obtain ⟨cs1, ms1, K1, K2, R1, F1, N1, A1, T1⟩ := sim_keepT R
      have e71 : ms_a ms1 7 = ms_a ms 7 := A1 7 (by omega) (by omega)
      obtain ⟨cs2, ms2, D, _, e72, hC2, hM2⟩ := sim_pass R1.1 (by rw [e71]; exact lt)
      have R2 : Rel cs2 ms2 := Rel_deed R1.1 F1 D.1 D.2.1 D.2.2.1 D.2.2.2.1
      obtain ⟨j, cs3, ms3, hj, R3, hd, hC3, hM3, T3⟩ := ih (i + 1) cs2 ms2 (by omega) R2
      refine ⟨j, cs3, ms3, hj, R3, ?_, ?_, ?_, T3.1.trans ((d_texts D.1).trans T1.1), T3.2.trans ((fr_off D.2.2.2.1 (by omega)).trans T1.2)⟩
      · intro q
        refine hd ?_
        rw [e72, e71]
        obtain ⟨y, hy, ey⟩ := p_rng2 (n := 9999) (by decide) bd.1 bd.2
        rw [ey, nI_add] at q
        rw [ey, nI_1, nI_add, show y + 1 + d = y + (d + 1) by omega]
        exact q
      · intro post hp
        rw [wC_X11_passDays_2]
        refine p_no (nI_ge (by omega) (by omega)) ?_
        unfold wC_X2_canPass
        rw [q_today, rd_day R.1.1, nI_1]
        exact p_no (Int32.not_le.mpr lt) (p_no (by decide) (K1 _ (hC2 _ (hC3 post hp))))
      · intro post hp
        rw [wM_arePassed_2, nI_1]
        exact p_no (nI_ge (by omega) (by omega)) (p_no h7 (K2 _ (hM2 _ (hM3 post hp))))
theorem sim_day {cs : CS} {ms : MS} (R : Rel cs ms) (p1 : Int32) : ∃ (r : Int32) (cs' : CS) (ms' : MS), rt (wC_X11_day p1 cs) r cs' ∧ rt (wM_day p1 ms) r ms' ∧ Rel cs' ms' := by
  have bd := bd_day R.1.1
  by_cases c : (1 ≤ p1 ∧ p1 ≤ 60) ∧ ms_a ms 7 + p1 ≤ 9999
  · obtain ⟨c1, c2⟩ := c
    obtain ⟨n, hn, rfl⟩ := p_rng2 (n := 60) (by decide) (Int32.le_trans (by decide) c1.1) c1.2
    obtain ⟨j, cs', ms', hj, R', hd, hC, hM, _⟩ := sim_days hn n 0 cs ms (by omega) R
    have ej := hd c2
    subst ej
    refine ⟨ms_a ms' 7, cs', ms', ?_, ?_, R'⟩
    · intro post hp
      unfold wC_X11_day
      simp only [q_within, p_b0, q_today]
      rw [rd_day R.1.1]
      refine p_val c1 (p_yes c2 ⟨j + 1, hC _ ?_⟩)
      rw [rd_day R'.1.1]
      exact hp
    · intro post hp
      unfold wM_day
      simp only [m_isIn, p_b0]
      refine p_val c1 (p_no (Int32.not_lt.mpr c2) ⟨j + 1, hM _ ?_⟩)
      rw [if_pos rfl]
      exact p_no (by decide) hp
  · refine ⟨-1, cs, ms, ?_, ?_, R⟩
    · intro post hp
      unfold wC_X11_day
      simp only [q_within, p_b0, q_today]
      rw [rd_day R.1.1]
      exact p_inv hp (fun c1 => p_no (fun c2 => c ⟨c1, c2⟩) hp)
    · intro post hp
      unfold wM_day
      simp only [m_isIn, p_b0]
      exact p_inv hp (fun c1 => p_yes (Int32.not_le.mp (fun c2 => c ⟨c1, c2⟩)) hp)
