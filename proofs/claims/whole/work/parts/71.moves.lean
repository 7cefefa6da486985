/-! PURE LAYER: what a fall does to a house; laughs; draws -/
theorem gs_turns_now (S : CS) (v : Nat → Int32) : cx_c_turns (cx_set_c_now S v) = cx_c_turns S := by
  simp only [cx_c_turns, cx_set_c_now]
theorem hd_max {x : Int32} (h : x ≤ 99) : (if x < 0 then 0 else x) = hd x 99 := by
  unfold hd
  by_cases a : x < 0
  · rw [if_pos a, if_pos a]
  · rw [if_neg a, if_neg a, if_neg (Int32.not_lt.mpr h)]
theorem RN_moves {f a : Nat → Int32} (N : RN f a) {h : Nat} (hh : h < 6) {g m : Int32} (g0 : 0 ≤ g ∧ g ≤ 99) (m0 : 0 ≤ m ∧ m ≤ 9) : RN (upd (upd f h g) (6 + h) m) (upd (upd a (10 + 6 * h) g) (11 + 6 * h) m) ∧ fr a (upd (upd a (10 + 6 * h) g) (11 + 6 * h) m) := by
  have q1 := RN_upd N (i := h) (by omega) (v := g) (by rw [lo_grief hh]; exact g0.1) (by rw [hi_grief hh]; exact g0.2)
  rw [ix_grief hh] at q1
  have q2 := RN_upd q1 (i := 6 + h) (by omega) (v := m) (by rw [lo_mood hh]; exact m0.1) (by rw [hi_mood hh]; exact m0.2)
  rw [ix_mood hh] at q2
  refine ⟨q2, fr_trans (b := upd a (10 + 6 * h) g) ?_ ?_⟩
  · have := fr_upd a (i := h) (by omega) g
    rw [ix_grief hh] at this
    exact this
  · have := fr_upd (upd a (10 + 6 * h) g) (i := 6 + h) (by omega) m
    rw [ix_mood hh] at this
    exact this
theorem sim_moves {cs : CS} {ms : MS} (R : Rel0 cs ms) {c v h : Nat} (hc : c < 5) (hv : v < 5) (hh : h < 6) (ep : ms_a ms (47 + 5 * c) = nI h) : ∃ (g m : Int32) (cs' : CS) (ms' : MS), (0 ≤ g ∧ g ≤ 99) ∧ (0 ≤ m ∧ m ≤ 9) ∧ dC cs cs' ∧ dM ms ms' ∧ cx_c_now cs' = upd (upd (cx_c_now cs) h g) (6 + h) m ∧ ms_a ms' = upd (upd (ms_a ms) (10 + 6 * h) g) (11 + 6 * h) m ∧ (∀ post : CS → Prop, post cs' → wC_X3_easing (nI c) (nI v) cs (fun r S => wC_X2_moves (nI h) (nI v) r S post)) ∧ rv (wM_comfortNow (nI c) (nI v) ms) ms' := by
  obtain ⟨r, cs1, ms1, hr, s1, s2, hC, hM⟩ := sim_easing R rfl (fun _ _ => rfl) hc hv hh ep
  have RC1 : RC cs1.1 (ms_a ms) := by
    rw [s1.1]
    exact R.1
  have bg := bd_grief R.1 hh
  have bm := bd_mood R.1 hh
  obtain ⟨q, hq, eq⟩ := p_rng2 (n := 9) (by decide) bm.1 bm.2
  have bt := bd_turns R.1 (h := 10 * v + q) (by omega)
  have le : ms_a ms (10 + 6 * h) - r ≤ 99 := by
    generalize ms_a ms (10 + 6 * h) = x at bg
    grind
  refine ⟨hd (ms_a ms (10 + 6 * h) - r) 99, ms_a ms (71 + (10 * v + q)), cx_set_c_now cs1 (upd (upd (cx_c_now cs) h (hd (ms_a ms (10 + 6 * h) - r) 99)) (6 + h) (ms_a ms (71 + (10 * v + q)))), ms_set_a ms1 (upd (upd (ms_a ms) (10 + 6 * h) (hd (ms_a ms (10 + 6 * h) - r) 99)) (11 + 6 * h) (ms_a ms (71 + (10 * v + q)))), hd_bd (by decide), bt, dC_trans (sC_d s1) (dC_now _ _), dM_trans (sM_d s2) (dM_a _ _), gs_now_now _ _, g_aa _ _, ?_, ?_⟩
  · intro post hp
    refine hC _ ?_
    unfold wC_X2_moves
    rw [q_see_grief hh, rd_grief RC1 hh, hd_max le, q_set_grief hh, q_see_mood hh, gs_now_now, upd_ne _ _ (by omega), rd_mood RC1 hh, eq, q_turned hv (by omega), gs_turns_now, rd_turns RC1 (by omega), q_set_mood hh, gs_now_now, s_nn, sC_now s1]
    exact hp
  · intro post hp
    unfold wM_comfortNow
    rw [m_own_at hc, ep, m_get_grief hh]
    refine hM _ ?_
    rw [m_cut, m_put_grief hh, s2.1, m_get_mood hh, g_aa, upd_ne _ _ (by omega), eq, m_moodBy hv (by omega), g_aa, upd_ne _ _ (by omega), m_put_mood hh, g_aa, s_aa]
    exact hp
theorem upd_back (f : Nat → Int32) {h k : Nat} (hk : h ≠ k) (g m : Int32) : upd (upd (upd (upd f h g) k m) h (f h)) k (f k) = f := by
  funext j
  by_cases e : j = k
  · rw [e, upd_eq]
  · rw [upd_ne _ _ e]
    by_cases e2 : j = h
    · rw [e2, upd_eq]
    · rw [upd_ne _ _ e2, upd_ne _ _ e, upd_ne _ _ e2]
theorem sim_odds {cs : CS} {ms : MS} (R : Rel0 cs ms) {c v h : Nat} (hc : c < 5) (hv : v < 5) (hh : h < 6) (ep : ms_a ms (47 + 5 * c) = nI h) : ∃ (r : Int32) (cs' : CS) (ms' : MS), sC cs cs' ∧ sM ms ms' ∧ rt (wC_X2_oddsOfFall (nI c) (nI v) cs) r cs' ∧ (∀ post : Int32 → MS → Prop, post r ms' → wM_own (nI c) 1 ms (fun r_7 S_8 => wM_get r_7 0 S_8 (fun r_9 S_10 => wM_get r_7 1 S_10 (fun r_11 S_12 => wM_comfortNow (nI c) (nI v) S_12 (fun S_14 => wM_laughsOf (nI c) (nI v) S_14 (fun r_15 S_16 => wM_put r_7 0 r_9 S_16 (fun S_18 => wM_put r_7 1 r_11 S_18 (fun S_20 => post r_15 S_20)))))))) := by
  obtain ⟨g, m, cs1, ms1, hg, hm, d1, d2, n1, a1, hC, hM⟩ := sim_moves R hc hv hh ep
  obtain ⟨N1, F1⟩ := RN_moves R.1.1 hh hg hm
  have R1 : Rel0 cs1 ms1 := Rel0_d R d1 d2 (by rw [n1, a1]; exact N1) (by rw [a1]; exact F1)
  have ep1 : ms_a ms1 (47 + 5 * c) = nI h := by
    rw [a1, upd_ne _ _ (by omega), upd_ne _ _ (by omega)]
    exact ep
  obtain ⟨r, cs2, ms2, _, s1, s2, hC2, hM2⟩ := sim_laughing R1 rfl (fun _ _ => rfl) hc hv hh ep1
  have nn : upd (upd (cx_c_now cs2) h (cx_c_now cs h)) (6 + h) (cx_c_now cs (6 + h)) = cx_c_now cs := by
    rw [sC_now s1, n1]
    exact upd_back _ (by omega) _ _
  have aa : upd (upd (ms_a ms2) (10 + 6 * h) (ms_a ms (10 + 6 * h))) (11 + 6 * h) (ms_a ms (11 + 6 * h)) = ms_a ms := by
    rw [s2.1, a1]
    exact upd_back _ (by omega) _ _
  refine ⟨r, cx_set_c_now cs2 (cx_c_now cs), ms_set_a ms2 (ms_a ms), ?_, ?_, ?_, ?_⟩
  · exact dC_s (dC_trans d1 (dC_trans (sC_d s1) (dC_now _ _))) (gs_now_now _ _)
  · exact ⟨g_aa _ _, dM_trans d2 (dM_trans (sM_d s2) (dM_a _ _))⟩
  · intro post hp
    unfold wC_X2_oddsOfFall
    rw [q_see_place hc, rd_place R.1 hc, ep, q_see_grief hh, q_see_mood hh]
    refine hC _ (hC2 _ ?_)
    rw [q_set_grief hh, q_set_mood hh, gs_now_now, s_nn, nn]
    exact hp
  · intro post hp
    rw [m_own_at hc, ep, m_get_grief hh, m_get_mood hh]
    refine hM _ (hM2 _ ?_)
    rw [m_put_grief hh, m_put_mood hh, g_aa, s_aa, aa]
    exact hp
theorem sim_laughs {cs : CS} {ms : MS} (R : Rel cs ms) (p1 p2 : Int32) : ∃ (r : Int32) (cs' : CS) (ms' : MS), rt (wC_X11_laughs p1 p2 cs) r cs' ∧ rt (wM_laughs p1 p2 ms) r ms' ∧ Rel cs' ms' := by
  have hC := bd_clowns R.1.1
  by_cases c : ((0 ≤ p1 ∧ p1 < ms_a ms 1) ∧ ¬ ms_a ms (47 + 5 * p1.toNatClampNeg) = -1) ∧ (0 ≤ p2 ∧ p2 ≤ 4)
  · obtain ⟨c1, c2⟩ := c
    obtain ⟨d, g, hd, hg, e1, e2⟩ := out_at R.1 c1
    obtain ⟨v, hv, rfl⟩ := p_rng2 (n := 4) (by decide) c2.1 c2.2
    obtain ⟨r, cs', ms', s1, s2, hC1, hM1⟩ := sim_odds R.1 hd (show v < 5 by omega) hg e2
    refine ⟨r, cs', ms', ?_, ?_, Rel_s R s1 s2⟩
    · intro post hp
      unfold wC_X11_laughs
      rw [q_isOutR R.1, p_b0]
      simp only [q_isFall, p_b0]
      refine p_val c1 (p_val c2 ?_)
      rw [e1]
      exact hC1 _ hp
    · intro post hp
      unfold wM_laughs
      rw [m_isAtHouse hC, p_b0]
      simp only [m_isKind, p_b0]
      refine p_val c1 (p_val c2 ?_)
      rw [e1]
      exact hM1 _ hp
  · refine ⟨-1, cs, ms, ?_, ?_, R⟩
    · intro post hp
      unfold wC_X11_laughs
      rw [q_isOutR R.1, p_b0]
      simp only [q_isFall, p_b0]
      exact p_inv hp (fun c1 => p_inv hp (fun c2 => absurd ⟨c1, c2⟩ c))
    · intro post hp
      unfold wM_laughs
      rw [m_isAtHouse hC, p_b0]
      simp only [m_isKind, p_b0]
      exact p_inv hp (fun c1 => p_inv hp (fun c2 => absurd ⟨c1, c2⟩ c))
/-! draws -/
def drN (x : Nat) : Nat := (x * 419 + 293) % 30529
theorem drN_lt (x : Nat) : drN x ≤ 30528 := by
  have := Nat.mod_lt (x * 419 + 293) (show 0 < 30529 by decide)
  unfold drN
  omega
theorem q_draws {S : CS} {x : Nat} (hx : x ≤ 30528) (e : cx_c_now S 40 = nI x) (post : Int32 → CS → Prop) : wC_X2_draws S post = post (nI x) (cx_set_c_now S (upd (cx_c_now S) 40 (nI (drN x)))) := by
  have r : k_rem (nI (x * 419 + 293)) 30529 = nI (drN x) := p_rem (d := 30529) (by omega) (by decide)
  unfold wC_X2_draws
  rw [q_see_draw, e, nI_ml 419 x, nI_al 293 (x * 419), r, q_set_draw]
theorem m_anew {S : MS} {x : Nat} (hx : x ≤ 30528) (e : ms_a S 8 = nI x) (post : MS → Prop) : wM_anew S post = post (ms_set_a S (upd (ms_a S) 8 (nI (drN x)))) := by
  have m1 : lN x * 419 = lN (x * 419) := lN_mul x 419
  have m2 : lN (x * 419) + 293 = lN (x * 419 + 293) := lN_add (x * 419) 293
  have m3 : k_remL (lN (x * 419 + 293)) 30529 = lN (drN x) := pk_lRem (b := 30529) (by omega) (by decide) (by decide)
  unfold wM_anew
  rw [p_all, e, nI_l (by omega), m1, m2, m3, lN_i]
theorem RN_draw {f a : Nat → Int32} (N : RN f a) {x : Nat} (hx : x ≤ 30528) : RN (upd f 40 (nI x)) (upd a 8 (nI x)) ∧ fr a (upd a 8 (nI x)) := ⟨RN_upd N (i := 40) (by decide) (v := nI x) (nI_pos' (by omega)) (nI_le (b := 30528) hx (by decide)), fr_upd a (i := 40) (by decide) (nI x)⟩
