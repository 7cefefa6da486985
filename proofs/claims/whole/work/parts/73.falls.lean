/-! PURE LAYER: falls, fall -/
theorem hd_min {x t : Int32} (h : 0 ≤ x) : (if t < x then t else x) = hd x t := by
  unfold hd
  rw [if_neg (Int32.not_lt.mpr h)]
theorem Df_s {cs cs1 cs2 : CS} {ms ms1 ms2 : MS} (D : Df cs ms cs1 ms1) (s1 : sC cs1 cs2) (s2 : sM ms1 ms2) : Df cs ms cs2 ms2 := by
  refine ⟨dC_trans D.1 (sC_d s1), dM_trans D.2.1 (sM_d s2), ?_, ?_, ?_⟩
  · rw [sC_now s1, s2.1]
    exact D.2.2.1
  · rw [s2.1]
    exact D.2.2.2.1
  · rw [s2.1]
    exact D.2.2.2.2
theorem sim_laugh {cs : CS} {ms : MS} (R : Rel0 cs ms) {h c : Nat} (hh : h < 6) (hc : c < 5) : ∃ (cs' : CS) (ms' : MS), Df cs ms cs' ms' ∧ tl (ms_a ms) (ms_a ms') ∧ (∀ post : CS → Prop, post cs' → wC_X0_see 18 (nI h) cs (fun r_12 S_13 => wC_X0_set 18 (nI h) (if 99 < (r_12 + 1) then 99 else (r_12 + 1)) S_13 (fun S_15 => wC_X0_see 12 (nI h) S_15 (fun r_16 S_17 => ((r_16 = (-1) → wC_X0_set 12 (nI h) (nI c) S_17 (fun S_22 => wC_X0_writeDown (nI h) (nI c) S_22 post)) ∧ (¬ (r_16 = (-1)) → wC_X0_writeDown (nI h) (nI c) S_17 post)))))) ∧ rv (wM_laugh (nI h) (nI c) ms) ms' := by
  have bl := bd_laughed R.1 hh
  have l0 : 0 ≤ ms_a ms (13 + 6 * h) + 1 := by
    generalize ms_a ms (13 + 6 * h) = x at bl
    grind
  have hb := hd_bd (r := ms_a ms (13 + 6 * h) + 1) (top := 99) (by decide)
  have D1 := Df_cell R (i := 18 + h) (by omega) (by omega) (v := hd (ms_a ms (13 + 6 * h) + 1) 99) (by rw [lo_laughed hh]; exact hb.1) (by rw [hi_laughed hh]; exact hb.2)
  rw [ix_laughed hh] at D1
  have R1 := Df_Rel R D1
  have z12 : cx_c_now (cx_set_c_now cs (upd (cx_c_now cs) (18 + h) (hd (ms_a ms (13 + 6 * h) + 1) 99))) (12 + h) = ms_a ms (12 + 6 * h) := by
    rw [gs_now_now, upd_ne _ _ (by omega)]
    exact rd_clock R.1 hh
  have y12 : ms_a (ms_set_a ms (upd (ms_a ms) (13 + 6 * h) (hd (ms_a ms (13 + 6 * h) + 1) 99))) (12 + 6 * h) = ms_a ms (12 + 6 * h) := by
    rw [g_aa, upd_ne _ _ (by omega)]
  by_cases k : ms_a ms (12 + 6 * h) = -1
  · have D2 := Df_cell R1 (i := 12 + h) (by omega) (by omega) (v := nI c) (by rw [lo_clock hh]; exact Int32.le_trans (by decide) (nI_pos' (by omega))) (by rw [hi_clock hh]; exact nI_le (b := 4) (by omega) (by decide))
    rw [ix_clock hh] at D2
    obtain ⟨cs3, ms3, D3, tD, hC, hM⟩ := sim_write (Df_Rel R1 D2) hh hc
    refine ⟨cs3, ms3, Df_trans D1 (Df_trans D2 D3), ?_, ?_, ?_⟩
    · intro k hk
      rw [tD k hk, g_aa, upd_ne _ _ (by omega), g_aa, upd_ne _ _ (by omega)]
    · intro post hp
      rw [q_see_laughed hh, rd_laughed R.1 hh, hd_min l0, q_set_laughed hh, q_see_clock hh, z12]
      refine p_yes k ?_
      rw [q_set_clock hh]
      exact hC post hp
    · intro post hp
      unfold wM_laugh
      rw [m_get_laughed hh, m_cut, m_put_laughed hh, m_get_clock hh, y12]
      refine p_yes k ?_
      rw [m_put_clock hh]
      exact hM post hp
  · obtain ⟨cs3, ms3, D3, tD, hC, hM⟩ := sim_write R1 hh hc
    refine ⟨cs3, ms3, Df_trans D1 D3, ?_, ?_, ?_⟩
    · intro k hk
      rw [tD k hk, g_aa, upd_ne _ _ (by omega)]
    · intro post hp
      rw [q_see_laughed hh, rd_laughed R.1 hh, hd_min l0, q_set_laughed hh, q_see_clock hh, z12]
      exact p_no k (hC post hp)
    · intro post hp
      unfold wM_laugh
      rw [m_get_laughed hh, m_cut, m_put_laughed hh, m_get_clock hh, y12]
      exact p_no k (hM post hp)
theorem sim_tire {cs : CS} {ms : MS} (R : Rel0 cs ms) {c : Nat} (hc : c < 5) (ht : ms_a ms (46 + 5 * c) < 9) : ∃ (cs' : CS) (ms' : MS), Df cs ms cs' ms' ∧ (∀ post : CS → Prop, post cs' → wC_X2_falls_106 post (nI c) cs) ∧ (∀ post : MS → Prop, post ms' → wM_fallNow_54 post (nI c) ms) := by
  have bt := bd_tired R.1 hc
  have bf := bd_falls R.1 hc
  have t0 : 0 ≤ ms_a ms (46 + 5 * c) + 1 ∧ ms_a ms (46 + 5 * c) + 1 ≤ 9 := by
    generalize ms_a ms (46 + 5 * c) = x at bt ht
    grind
  have f0 : 0 ≤ ms_a ms (48 + 5 * c) + 1 := by
    generalize ms_a ms (48 + 5 * c) = x at bf
    grind
  have hb := hd_bd (r := ms_a ms (48 + 5 * c) + 1) (top := 9999) (by decide)
  have D1 := Df_cell R (i := 24 + c) (by omega) (by omega) (v := ms_a ms (46 + 5 * c) + 1) (by rw [lo_tired hc]; exact t0.1) (by rw [hi_tired hc]; exact t0.2)
  rw [ix_tired hc] at D1
  have R1 := Df_Rel R D1
  have D2 := Df_cell R1 (i := 34 + c) (by omega) (by omega) (v := hd (ms_a ms (48 + 5 * c) + 1) 9999) (by rw [lo_falls hc]; exact hb.1) (by rw [hi_falls hc]; exact hb.2)
  rw [ix_falls hc] at D2
  refine ⟨_, _, Df_trans D1 D2, ?_, ?_⟩
  · intro post hp
    unfold wC_X2_falls_106
    have z : cx_c_now (cx_set_c_now cs (upd (cx_c_now cs) (24 + c) (ms_a ms (46 + 5 * c) + 1))) (34 + c) = ms_a ms (48 + 5 * c) := by
      rw [gs_now_now, upd_ne _ _ (by omega)]
      exact rd_falls R.1 hc
    rw [q_see_tired hc, rd_tired R.1 hc, q_set_tired hc, q_see_falls hc, z, hd_min f0, q_set_falls hc]
    exact hp
  · intro post hp
    unfold wM_fallNow_54
    have z : ms_a (ms_set_a ms (upd (ms_a ms) (46 + 5 * c) (ms_a ms (46 + 5 * c) + 1))) (48 + 5 * c) = ms_a ms (48 + 5 * c) := by
      rw [g_aa, upd_ne _ _ (by omega)]
    rw [m_own_tired hc, m_lay_tired hc, m_own_falls hc, z, m_cut, m_lay_falls hc]
    exact hp
theorem sim_falls {cs : CS} {ms : MS} (R : Rel0 cs ms) {c v h : Nat} (hc : c < 5) (hv : v < 5) (hh : h < 6) (ep : ms_a ms (47 + 5 * c) = nI h) (ht : ms_a ms (46 + 5 * c) < 9) : ∃ (cs' : CS) (ms' : MS), Df cs ms cs' ms' ∧ rv (wC_X2_falls (nI c) (nI v) cs) cs' ∧ rv (wM_fallNow (nI c) (nI v) ms) ms' := by
  obtain ⟨g, m, cs1, ms1, hg, hm, d1, d2, n1, a1, hC, hM⟩ := sim_moves R hc hv hh ep
  obtain ⟨N1, F1⟩ := RN_moves R.1.1 hh hg hm
  have D1 : Df cs ms cs1 ms1 := ⟨d1, d2, by rw [n1, a1]; exact N1, by rw [a1]; exact F1, by
    rw [a1]
    intro k hk
    rw [upd_ne _ _ (by omega), upd_ne _ _ (by omega)]⟩
  have R1 := Df_Rel R D1
  have bd := bd_draw R1.1
  obtain ⟨x, hx, ex⟩ := p_rng2 (n := 30528) (by decide) bd.1 bd.2
  have D2 := Df_cell R1 (i := 40) (by omega) (by omega) (v := nI (drN x)) (nI_pos' (by have := drN_lt x; omega)) (nI_le (b := 30528) (drN_lt x) (by decide))
  have D2' : Df cs1 ms1 (cx_set_c_now cs1 (upd (cx_c_now cs1) 40 (nI (drN x)))) (ms_set_a ms1 (upd (ms_a ms1) 8 (nI (drN x)))) := D2
  have R2 := Df_Rel R1 D2'
  have ep2 : ms_a (ms_set_a ms1 (upd (ms_a ms1) 8 (nI (drN x)))) (47 + 5 * c) = nI h := by
    rw [g_aa, upd_ne _ _ (by omega), D1.2.2.2.2 c hc]
    exact ep
  obtain ⟨r, cs3, ms3, _, s1, s2, hC3, hM3⟩ := sim_laughing (ms := ms1) R2 rfl (fun k hk => by rw [g_aa, upd_ne _ _ hk]) hc hv hh ep2
  -- the reference draws behind the law
  have e8 : ms_a ms3 8 = nI x := by
    rw [s2.1]
    exact ex
  have s4 : sM (ms_set_a ms1 (upd (ms_a ms1) 8 (nI (drN x)))) (ms_set_a ms3 (upd (ms_a ms3) 8 (nI (drN x)))) := by
    refine ⟨?_, s2.2.1, s2.2.2.1, s2.2.2.2.1, s2.2.2.2.2.1, s2.2.2.2.2.2.1, s2.2.2.2.2.2.2⟩
    rw [g_aa, g_aa, s2.1]
  have D3 : Df cs ms cs3 (ms_set_a ms3 (upd (ms_a ms3) 8 (nI (drN x)))) := Df_s (Df_trans D1 D2') s1 s4
  have R3 := Df_Rel R D3
  have ht3 : ms_a (ms_set_a ms3 (upd (ms_a ms3) 8 (nI (drN x)))) (46 + 5 * c) < 9 := by
    rw [g_aa, upd_ne _ _ (by omega), s2.1, a1, upd_ne _ _ (by omega), upd_ne _ _ (by omega)]
    exact ht
  have ep3 : ms_a (ms_set_a ms3 (upd (ms_a ms3) 8 (nI (drN x)))) (47 + 5 * c) = nI h := (D3.2.2.2.2 c hc).trans ep
  have clsA : ∀ (post : CS → Prop), (((r ≤ (k_rem (nI x) 10) → wC_X2_falls_106 post (nI c) cs3) ∧ (¬ (r ≤ (k_rem (nI x) 10)) → wC_X0_see 18 (nI h) cs3 (fun r_12 S_13 => wC_X0_set 18 (nI h) (if 99 < (r_12 + 1) then 99 else (r_12 + 1)) S_13 (fun S_15 => wC_X0_see 12 (nI h) S_15 (fun r_16 S_17 => ((r_16 = (-1) → wC_X0_set 12 (nI h) (nI c) S_17 (fun S_22 => wC_X0_writeDown (nI h) (nI c) S_22 (fun S_24 => wC_X2_falls_106 post (nI c) S_24))) ∧ (¬ (r_16 = (-1)) → wC_X0_writeDown (nI h) (nI c) S_17 (fun S_20 => wC_X2_falls_106 post (nI c) S_20))))))))) → wC_X2_falls (nI c) (nI v) cs post := by
    intro post hp
    unfold wC_X2_falls
    rw [q_see_place hc, rd_place R.1 hc, ep]
    refine hC _ ?_
    rw [q_draws hx (by rw [rd_draw R1.1]; exact ex)]
    exact hC3 _ hp
  have refA : ∀ (post : MS → Prop), ((r ≤ (k_rem (nI x) 10) → wM_fallNow_32 post (nI c) 0 ms3) ∧ (¬ (r ≤ (k_rem (nI x) 10)) → wM_fallNow_32 post (nI c) 1 ms3)) → wM_fallNow (nI c) (nI v) ms post := by
    intro post hp
    unfold wM_fallNow
    refine hM _ (hM3 _ ?_)
    rw [e8]
    exact hp
  by_cases k : r ≤ k_rem (nI x) 10
  · obtain ⟨cs4, ms4, D4, hC4, hM4⟩ := sim_tire R3 hc ht3
    refine ⟨cs4, ms4, Df_trans D3 D4, ?_, ?_⟩
    · intro post hp
      exact clsA post (p_yes k (hC4 post hp))
    · intro post hp
      refine refA post (p_yes k ?_)
      unfold wM_fallNow_32
      rw [m_anew hx e8]
      exact p_yes rfl (hM4 post hp)
  · obtain ⟨cs4, ms4, D4, tD4, hC4, hM4⟩ := sim_laugh R3 hh hc
    have R4 := Df_Rel R3 D4
    -- how tired: the laugh leaves it
    have ht4 : ms_a ms4 (46 + 5 * c) < 9 := by
      rw [tD4 c hc]
      exact ht3
    obtain ⟨cs5, ms5, D5, hC5, hM5⟩ := sim_tire R4 hc ht4
    refine ⟨cs5, ms5, Df_trans D3 (Df_trans D4 D5), ?_, ?_⟩
    · intro post hp
      exact clsA post (p_no k (hC4 _ (hC5 post hp)))
    · intro post hp
      refine refA post (p_no k ?_)
      unfold wM_fallNow_32
      rw [m_anew hx e8]
      refine p_no (by decide) ?_
      rw [m_own_at hc, ep3]
      exact hM4 _ (hM5 post hp)
theorem d_texts {S T : CS} (h : dC S T) : cx_c_texts T = cx_c_texts S := congrArg (fun c => c.2.2.2.2.1) h.1
theorem sim_fall {cs : CS} {ms : MS} (R : Rel cs ms) (p1 p2 : Int32) : ∃ (r : Int32) (cs' : CS) (ms' : MS), rt (wC_X11_fall p1 p2 cs) r cs' ∧ rt (wM_fall p1 p2 ms) r ms' ∧ Rel cs' ms' ∧ (r = -1 ∨ 0 ≤ r) ∧ kT cs ms cs' ms' := by
  have hC := bd_clowns R.1.1
  by_cases c : ((0 ≤ p1 ∧ p1 < ms_a ms 1) ∧ ¬ ms_a ms (47 + 5 * p1.toNatClampNeg) = -1) ∧ (0 ≤ p2 ∧ p2 ≤ 4) ∧ ms_a ms (46 + 5 * p1.toNatClampNeg) < 9
  · obtain ⟨c1, c2, c3⟩ := c
    obtain ⟨d, g, hd, hg, e1, e2⟩ := out_at R.1 c1
    subst e1
    rw [nI_clamp (by omega)] at c3
    obtain ⟨v, hv, rfl⟩ := p_rng2 (n := 4) (by decide) c2.1 c2.2
    obtain ⟨cs1, ms1, K1, K2, R1, F1, N1, A1, T1⟩ := sim_keepT R
    have e2' : ms_a ms1 (47 + 5 * d) = nI g := by
      rw [A1 _ (by omega) (by omega)]
      exact e2
    have c3' : ms_a ms1 (46 + 5 * d) < 9 := by
      rw [A1 _ (by omega) (by omega)]
      exact c3
    obtain ⟨cs2, ms2, D, hC2, hM2⟩ := sim_falls R1.1 hd (show v < 5 by omega) hg e2' c3'
    have R2 := Df_Rel R1.1 D
    have ep : ms_a ms2 (47 + 5 * d) = nI g := (D.2.2.2.2 d hd).trans e2'
    have bm := bd_mood R2.1 hg
    refine ⟨ms_a ms2 (11 + 6 * g), cs2, ms2, ?_, ?_, Rel_deed R1.1 F1 D.1 D.2.1 D.2.2.1 D.2.2.2.1, Or.inr bm.1, (d_texts D.1).trans T1.1, (fr_off D.2.2.2.1 (by omega)).trans T1.2⟩
    · intro post hp
      unfold wC_X11_fall wC_X2_canFall
      rw [q_isFall, p_b0, q_isOutR R.1]
      simp only [p_b0, q_see_tired hd, rd_tired R.1.1 hd]
      refine p_val c2 (p_val c1 (p_no (Int32.not_le.mpr c3) (p_no (by decide) (K1 _ (hC2 _ ?_)))))
      rw [q_see_place hd, rd_place R2.1 hd, ep, q_see_mood hg, rd_mood R2.1 hg]
      exact hp
    · intro post hp
      unfold wM_fall wM_canFall
      rw [m_isAtHouse hC]
      simp only [p_b0, m_own_tired hd, m_isKind]
      refine p_val c1 (p_no (Int32.not_le.mpr c3) (p_no (by decide) (p_val c2 (K2 _ (hM2 _ ?_)))))
      rw [m_own_at hd, ep, m_get_mood hg]
      exact hp
  · refine ⟨-1, cs, ms, ?_, ?_, R, Or.inl rfl, rfl, rfl⟩
    · intro post hp
      unfold wC_X11_fall wC_X2_canFall
      rw [q_isFall, p_b0, q_isOutR R.1]
      simp only [p_b0]
      refine p_inv (p_yes trivial hp) (fun c2 => p_inv (p_yes trivial hp) (fun c1 => ?_))
      obtain ⟨d, g, hd, hg, e1, e2⟩ := out_at R.1 c1
      subst e1
      rw [q_see_tired hd, rd_tired R.1.1 hd]
      refine p_two (fun _ => p_yes trivial hp) (fun c3 => ?_)
      rw [nI_clamp (by omega)] at c
      rw [nI_clamp (by omega)] at c1
      exact absurd ⟨c1, c2, Int32.not_le.mp c3⟩ c
    · intro post hp
      unfold wM_fall wM_canFall
      rw [m_isAtHouse hC]
      simp only [p_b0, m_isKind]
      refine p_inv (p_yes trivial hp) (fun c1 => ?_)
      obtain ⟨d, g, hd, hg, e1, e2⟩ := out_at R.1 c1
      subst e1
      rw [m_own_tired hd]
      refine p_two (fun _ => p_yes trivial hp) (fun c3 => p_no (by decide) (p_inv hp (fun c2 => ?_)))
      rw [nI_clamp (by omega)] at c
      rw [nI_clamp (by omega)] at c1
      exact absurd ⟨c1, c2, Int32.not_le.mp c3⟩ c
