/-! PURE LAYER: growing, of, eased -/
def TxP (cs : CS) (ms : MS) (p : Int32) (tx : Option Nat) : Prop := (p < 0 ∧ tx = none) ∨ (∃ t : Nat, t < 4 ∧ p = nI t ∧ nI t < ms_a ms 2 ∧ tx = cx_c_texts cs t)
theorem q_textRule {cs : CS} {ms : MS} (R : Rel0 cs ms) : ∃ tx : Option Nat, TxP cs ms (ms_a ms 3) tx ∧ ∀ post : Option Nat → CS → Prop, post tx cs → wC_X0_textAt (cx_c_ruling cs) cs post := by
  have eru : cx_c_ruling cs = ms_a ms 3 := rd_ruling R.1
  have etc : cx_c_textCount cs = ms_a ms 2 := rd_textCount R.1
  rcases ruling_cases R.1 with h | ⟨t, ht, et, htc⟩
  · refine ⟨none, Or.inl ⟨h, rfl⟩, ?_⟩
    intro post hp
    rw [eru]
    exact q_textNone h cs post hp
  · refine ⟨cx_c_texts cs t, Or.inr ⟨t, ht, et, htc, rfl⟩, ?_⟩
    intro post hp
    rw [eru, et]
    exact q_textAt ht (by rw [etc]; exact htc) post hp
theorem pop_le : ∀ m, m < 32 → popN m ≤ 5 := by decide +kernel
theorem nm_grow {c : CS_c} {a : Nat → Int32} (R : RC c a) {h p : Nat} (hh : h < 6) (hp : p ≤ 5) (f g : Nat → Int32) : ∀ k, nmOk 2 k = true → k < 12 ∧ upd (nmH a h f) 11 (nI p) k = upd (nmH a h g) 11 (nI p) k ∧ bdV (upd (nmH a h f) 11 (nI p) k) := by
  intro k hk
  have b0 := bdV_of (bd_day R) (by decide) (by decide)
  have b1 := bdV_of (bd_kinds R hh) (by decide) (by decide)
  have b2 := bdV_of (bd_grief R hh) (by decide) (by decide)
  have b3 := bdV_of (bd_mood R hh) (by decide) (by decide)
  have b4 := bdV_of (bd_laughed R hh) (by decide) (by decide)
  have b5 : bdV (nI h) := bdV_of ⟨nI_pos' (by omega), nI_le (b := 6) (by omega) (by decide)⟩ (by decide) (by decide)
  have b6 : bdV (nI p) := bdV_of ⟨nI_pos' (by omega), nI_le (b := 6) (by omega) (by decide)⟩ (by decide) (by decide)
  have h2 : k < 6 ∨ k = 11 := by
    unfold nmOk at hk
    rw [if_pos rfl] at hk
    rcases Bool.or_eq_true_iff.mp hk with q | q
    · exact Or.inl (of_decide_eq_true q)
    · exact Or.inr (beq_iff_eq.mp q)
  have : k = 0 ∨ k = 1 ∨ k = 2 ∨ k = 3 ∨ k = 4 ∨ k = 5 ∨ k = 11 := by omega
  rcases this with e | e | e | e | e | e | e <;> subst e
  · exact ⟨by decide, rfl, b0⟩
  · exact ⟨by decide, rfl, b1⟩
  · exact ⟨by decide, rfl, b2⟩
  · exact ⟨by decide, rfl, b3⟩
  · exact ⟨by decide, rfl, b4⟩
  · exact ⟨by decide, rfl, b5⟩
  · exact ⟨by decide, rfl, b6⟩
theorem sim_growing {cs : CS} {ms : MS} (R : Rel0 cs ms) {h : Nat} (hh : h < 6) {p : Int32} {tx : Option Nat} (hx : TxP cs ms p tx) : ∃ (r : Int32) (cs' : CS) (ms' : MS), (0 ≤ r ∧ r ≤ 9) ∧ sC cs cs' ∧ sM ms ms' ∧ rt (wC_X3_growing tx (nI h) cs) r cs' ∧ rt (wM_growsOf p (nI h) ms) r ms' := by
  have hC := bd_clowns R.1
  obtain ⟨N, hN5, eN⟩ := p_rng2 (n := 5) (by decide) hC.1 hC.2
  obtain ⟨m, hm, em⟩ := thV_lt (ms_a ms) (nI h) hN5 eN
  have hpop := pop_le m hm
  have hcls : ∀ post : Int32 → CS → Prop, ((tx = none → ((nI (popN m) = 0 → post 1 cs) ∧ (¬ (nI (popN m) = 0) → post 0 cs))) ∧ (∀ a_5 : Nat, tx = some a_5 → (∃ B_7 : TB, (a_5, B_7) ∈ cx_px cs ∧ wC_X9_hasLaw a_5 2 cs (fun r_8 S_9 => ((r_8 = 0 → ((nI (popN m) = 0 → post 1 S_9) ∧ (¬ (nI (popN m) = 0) → post 0 S_9))) ∧ (¬ (r_8 = 0) → wC_X3_nameHouse (nI h) S_9 (fun S_12 => (∀ S_13 : CS, S_13 = (cx_set_l_named S_12 (k_put 12 (cx_l_named S_12) 11 (nI (popN m)))) → wC_X3_worked (some a_5) 2 S_13 (fun r_14 S_15 => wC_X11_held r_14 0 9 S_15 (fun r_16 S_17 => post r_16 S_17)))))))))) → wC_X3_growing tx (nI h) cs post := by
    intro post hp
    unfold wC_X3_growing
    refine q_clownsAt R.1 (nI h) _ ?_
    rw [em]
    exact q_bitCount (by omega) cs _ hp
  obtain ⟨ms1, em1⟩ : ∃ z, z = ms_set_named ms (upd (nmH (ms_a ms) h (ms_named ms)) 11 (nI (popN m))) := ⟨_, rfl⟩
  have sm1 : sM ms ms1 := by
    rw [em1]
    exact k_sM _ _
  have href : ∀ post : Int32 → MS → Prop, ((nI (popN m) = 0 → wM_says p 2 1 9 ms1 post) ∧ (¬ (nI (popN m) = 0) → wM_says p 2 0 9 ms1 post)) → wM_growsOf p (nI h) ms post := by
    intro post hp
    unfold wM_growsOf
    refine m_nameHouse hh ms _ (m_thereAt (by rw [k_t1]; exact hC) (nI h) _ ?_)
    rw [k_t1, em]
    refine m_bits (by omega) _ _ ?_
    intro S7 e7
    have e8 : S7 = ms1 := by
      rw [e7, em1, k_t2, k_t3]
    subst e8
    have e9 : ms_named S7 11 = nI (popN m) := by
      rw [em1, k_t2]
      exact upd_eq _ _ _
    rw [e9]
    exact hp
  obtain ⟨wo, hw, ew⟩ : ∃ wo : Int32, (0 ≤ wo ∧ wo ≤ 9) ∧ ((nI (popN m) = 0 → wo = 1) ∧ (¬ nI (popN m) = 0 → wo = 0)) := by
    by_cases h : nI (popN m) = 0
    · exact ⟨1, by decide, fun _ => rfl, fun n => absurd h n⟩
    · exact ⟨0, by decide, fun n => absurd n h, fun _ => rfl⟩
  have two : ∀ A : Int32 → Prop, A wo → (nI (popN m) = 0 → A 1) ∧ (¬ nI (popN m) = 0 → A 0) := by
    intro A hA
    refine ⟨fun h => ?_, fun h => ?_⟩
    · rw [ew.1 h] at hA
      exact hA
    · rw [ew.2 h] at hA
      exact hA
  rcases hx with ⟨hp0, htx⟩ | ⟨t, ht, et, htc, htx⟩
  · refine ⟨wo, cs, ms1, hw, sC_refl _, sm1, ?_, ?_⟩
    · intro post hp
      refine hcls post ⟨fun _ => two (fun x => post x cs) hp, fun a h => ?_⟩
      rw [htx] at h
      cases h
    · intro post hp
      refine href post (two (fun x => wM_says p 2 x 9 ms1 post) (m_says_neg hp0 _ _ _ _ _ ?_))
      rw [hd_id hw.1 hw.2]
      exact hp
  · obtain ⟨ad, ead, ⟨B, hm1⟩, hl⟩ := law_at R ht htc (s := 2) (by decide)
    have htx' : tx = some ad := htx.trans ead
    rcases hl with ⟨hl1, hl2⟩ | ⟨hl1, hl2⟩
    · refine ⟨wo, cs, ms1, hw, sC_refl _, sm1, ?_, ?_⟩
      · intro post hp
        refine hcls post ⟨fun h => ?_, fun a h => ?_⟩
        · rw [htx'] at h
          cases h
        · rw [htx'] at h
          cases h
          exact ⟨B, hm1, hl1 cs _ rfl (p_yes rfl (two (fun x => post x cs) hp))⟩
      · intro post hp
        refine href post (two (fun x => wM_says p 2 x 9 ms1 post) ?_)
        rw [et]
        refine hl2 ms1 _ _ _ sm1.2.2.1 ?_
        rw [hd_id hw.1 hw.2]
        exact hp
    · obtain ⟨cs1, ecs1⟩ : ∃ z, z = cx_set_l_named cs (upd (nmH (ms_a ms) h (cx_l_named cs)) 11 (nI (popN m))) := ⟨_, rfl⟩
      have sc1 : sC cs cs1 := by
        rw [ecs1]
        exact n_sC _ _
      have hN : NM 2 cs1 ms1 := by
        intro k hk
        rw [ecs1, em1, n_t5, k_t2]
        exact nm_grow R.1 hh hpop (cx_l_named cs) (ms_named ms) k hk
      obtain ⟨r0, cs2, ms2, hb, s1, s2, hC2, hM⟩ := hl2 cs1 ms1 sc1 sm1.2.2.1 (by rw [sm1.1]; exact fun _ _ => rfl) hN
      refine ⟨hd r0 9, cs2, ms2, hd_bd (by decide), sC_trans sc1 s1, sM_trans sm1 s2, ?_, ?_⟩
      · intro post hp
        refine hcls post ⟨fun h => ?_, fun a h => ?_⟩
        · rw [htx'] at h
          cases h
        · rw [htx'] at h
          cases h
          refine ⟨B, hm1, hl1 cs _ rfl (p_no (by decide) (q_nameHouse R.1 hh _ ?_))⟩
          intro S13 e13
          rw [n_t5, n_t6, p_putL _ (by decide) 11 (by decide), ← ecs1] at e13
          subst e13
          refine hC2 _ ?_
          rw [q_held, hld_hd (by decide)]
          exact hp
      · intro post hp
        refine href post (two (fun x => wM_says p 2 x 9 ms1 post) ?_)
        rw [et]
        exact hM _ _ _ hp
theorem sim_of {cs : CS} {ms : MS} (R : Rel cs ms) (p1 p2 : Int32) : ∃ (r : Int32) (cs' : CS) (ms' : MS), rt (wC_X11_of p1 p2 cs) r cs' ∧ rt (wM_of p1 p2 ms) r ms' ∧ Rel cs' ms' := by
  have hH := bd_houses R.1.1
  have eH := rd_houses R.1.1
  have hCl := bd_clowns R.1.1
  by_cases c : 0 ≤ p1 ∧ p1 < ms_a ms 0
  · obtain ⟨g, hg, rfl⟩ := p_rng (n := 6) (by decide) c.1 (Int32.lt_of_lt_of_le c.2 hH.2)
    obtain ⟨tx, hx, htx⟩ := q_textRule R.1
    obtain ⟨r5, cs5, ms5, _, s1, s2, hC5, hM5⟩ := sim_growing R.1 hg hx
    have hC : ∀ (post : Int32 → CS → Prop), ((p2 = 0 → post (ms_a ms (14 + 6 * g)) cs) ∧ (p2 = 1 → post (ms_a ms (10 + 6 * g)) cs) ∧ (p2 = 2 → post (ms_a ms (11 + 6 * g)) cs) ∧ (p2 = 3 → post (ms_a ms (12 + 6 * g)) cs) ∧ (p2 = 4 → post (ms_a ms (13 + 6 * g)) cs) ∧ (p2 = 5 → post r5 cs5) ∧ (p2 = 6 → post (thV (ms_a ms) (nI g)) cs) ∧ (¬ p2 = 0 → ¬ p2 = 1 → ¬ p2 = 2 → ¬ p2 = 3 → ¬ p2 = 4 → ¬ p2 = 5 → ¬ p2 = 6 → post (-2) cs)) → wC_X11_of (nI g) p2 cs post := by
      intro post hp
      unfold wC_X11_of
      simp only [q_hasHouse, p_b0, p_at (show 6 < 2 ^ 31 by decide) _ hg, q_see_grief hg, q_see_mood hg, q_see_clock hg, q_see_laughed hg]
      rw [eH, rd_kinds R.1.1 hg, rd_grief R.1.1 hg, rd_mood R.1.1 hg, rd_clock R.1.1 hg, rd_laughed R.1.1 hg]
      obtain ⟨h0, h1, h2, h3, h4, h5, h6, h7⟩ := hp
      exact p_val c ⟨h0, h1, h2, h3, h4, fun e => htx _ (hC5 _ (h5 e)), fun e => q_clownsAt R.1.1 _ _ (h6 e), h7⟩
    have hM : ∀ (post : Int32 → MS → Prop), ((p2 = 0 → post (ms_a ms (14 + 6 * g)) ms) ∧ (p2 = 1 → post (ms_a ms (10 + 6 * g)) ms) ∧ (p2 = 2 → post (ms_a ms (11 + 6 * g)) ms) ∧ (p2 = 3 → post (ms_a ms (12 + 6 * g)) ms) ∧ (p2 = 4 → post (ms_a ms (13 + 6 * g)) ms) ∧ (p2 = 5 → post r5 ms5) ∧ (p2 = 6 → post (thV (ms_a ms) (nI g)) ms) ∧ (¬ p2 = 0 → ¬ p2 = 1 → ¬ p2 = 2 → ¬ p2 = 3 → ¬ p2 = 4 → ¬ p2 = 5 → ¬ p2 = 6 → post (-2) ms)) → wM_of (nI g) p2 ms post := by
      intro post hp
      unfold wM_of
      rw [m_isHouse _ hH]
      simp only [p_b0, m_get_kind hg, m_get_grief hg, m_get_mood hg, m_get_clock hg, m_get_laughed hg]
      obtain ⟨h0, h1, h2, h3, h4, h5, h6, h7⟩ := hp
      exact p_val c ⟨h0, h1, h2, h3, h4, fun e => hM5 _ (h5 e), fun e => m_thereAt hCl _ _ (h6 e), h7⟩
    by_cases d0 : p2 = 0
    · subst d0
      exact ⟨ms_a ms (14 + 6 * g), cs, ms, fun post hp => hC post (by simpa using hp), fun post hp => hM post (by simpa using hp), R⟩
    by_cases d1 : p2 = 1
    · subst d1
      exact ⟨ms_a ms (10 + 6 * g), cs, ms, fun post hp => hC post (by simpa using hp), fun post hp => hM post (by simpa using hp), R⟩
    by_cases d2 : p2 = 2
    · subst d2
      exact ⟨ms_a ms (11 + 6 * g), cs, ms, fun post hp => hC post (by simpa using hp), fun post hp => hM post (by simpa using hp), R⟩
    by_cases d3 : p2 = 3
    · subst d3
      exact ⟨ms_a ms (12 + 6 * g), cs, ms, fun post hp => hC post (by simpa using hp), fun post hp => hM post (by simpa using hp), R⟩
    by_cases d4 : p2 = 4
    · subst d4
      exact ⟨ms_a ms (13 + 6 * g), cs, ms, fun post hp => hC post (by simpa using hp), fun post hp => hM post (by simpa using hp), R⟩
    by_cases d5 : p2 = 5
    · subst d5
      exact ⟨r5, cs5, ms5, fun post hp => hC post (by simpa using hp), fun post hp => hM post (by simpa using hp), Rel_s R s1 s2⟩
    by_cases d6 : p2 = 6
    · subst d6
      exact ⟨thV (ms_a ms) (nI g), cs, ms, fun post hp => hC post (by simpa using hp), fun post hp => hM post (by simpa using hp), R⟩
    exact ⟨-2, cs, ms, fun post hp => hC post ⟨fun h => absurd h d0, fun h => absurd h d1, fun h => absurd h d2, fun h => absurd h d3, fun h => absurd h d4, fun h => absurd h d5, fun h => absurd h d6, fun _ _ _ _ _ _ _ => hp⟩, fun post hp => hM post ⟨fun h => absurd h d0, fun h => absurd h d1, fun h => absurd h d2, fun h => absurd h d3, fun h => absurd h d4, fun h => absurd h d5, fun h => absurd h d6, fun _ _ _ _ _ _ _ => hp⟩, R⟩
  · refine ⟨-2, cs, ms, ?_, ?_, R⟩
    · intro post hp
      unfold wC_X11_of
      simp only [q_hasHouse, p_b0]
      rw [eH]
      exact p_inv hp (fun c1 => absurd c1 c)
    · intro post hp
      unfold wM_of
      rw [m_isHouse _ hH]
      simp only [p_b0]
      exact p_inv hp (fun c1 => absurd c1 c)
/-- a clown that is out -/
theorem out_at {cs : CS} {ms : MS} (R : Rel0 cs ms) {p : Int32} (h : (0 ≤ p ∧ p < ms_a ms 1) ∧ ¬ ms_a ms (47 + 5 * p.toNatClampNeg) = -1) : ∃ c g : Nat, c < 5 ∧ g < 6 ∧ p = nI c ∧ ms_a ms (47 + 5 * c) = nI g := by
  have hC := bd_clowns R.1
  obtain ⟨c, hc, rfl⟩ := p_rng (n := 5) (by decide) h.1.1 (Int32.lt_of_lt_of_le h.1.2 hC.2)
  have h2 := h.2
  rw [nI_clamp (by omega)] at h2
  have hb := bd_place R.1 hc
  have h0 : 0 ≤ ms_a ms (47 + 5 * c) := by
    generalize ms_a ms (47 + 5 * c) = x at h2 hb
    grind
  obtain ⟨g, hg, eg⟩ := p_rng2 (n := 5) (by decide) h0 hb.2
  exact ⟨c, g, hc, by omega, rfl, eg⟩
theorem q_isOutR {cs : CS} {ms : MS} (R : Rel0 cs ms) (p : Int32) (post : Int32 → CS → Prop) : wC_X0_isOut p cs post = post (if (0 ≤ p ∧ p < ms_a ms 1) ∧ ¬ ms_a ms (47 + 5 * p.toNatClampNeg) = -1 then 1 else 0) cs := by
  have hC := bd_clowns R.1
  have eC := rd_clowns R.1
  rw [q_isOut (by rw [eC]; exact hC.2), eC]
  by_cases c : 0 ≤ p ∧ p < ms_a ms 1
  · obtain ⟨j, hj, rfl⟩ := p_rng (n := 5) (by decide) c.1 (Int32.lt_of_lt_of_le c.2 hC.2)
    rw [nI_clamp (by omega), rd_place R.1 hj]
  · rw [if_neg (fun q => c q.1), if_neg (fun q => c q.1)]
theorem sim_eased {cs : CS} {ms : MS} (R : Rel cs ms) (p1 p2 : Int32) : ∃ (r : Int32) (cs' : CS) (ms' : MS), rt (wC_X11_eased p1 p2 cs) r cs' ∧ rt (wM_eased p1 p2 ms) r ms' ∧ Rel cs' ms' := by
  have hC := bd_clowns R.1.1
  by_cases c : ((0 ≤ p1 ∧ p1 < ms_a ms 1) ∧ ¬ ms_a ms (47 + 5 * p1.toNatClampNeg) = -1) ∧ (0 ≤ p2 ∧ p2 ≤ 4)
  · obtain ⟨c1, c2⟩ := c
    obtain ⟨d, g, hd, hg, e1, e2⟩ := out_at R.1 c1
    obtain ⟨v, hv, rfl⟩ := p_rng2 (n := 4) (by decide) c2.1 c2.2
    obtain ⟨r, cs', ms', _, s1, s2, hC1, hM1⟩ := sim_easing R.1 rfl (fun _ _ => rfl) hd (show v < 5 by omega) hg e2
    refine ⟨r, cs', ms', ?_, ?_, Rel_s R s1 s2⟩
    · intro post hp
      unfold wC_X11_eased
      rw [q_isOutR R.1, p_b0]
      simp only [q_isFall, p_b0]
      refine p_val c1 (p_val c2 ?_)
      rw [e1]
      exact hC1 _ hp
    · intro post hp
      unfold wM_eased
      rw [m_isAtHouse hC, p_b0]
      simp only [m_isKind, p_b0]
      refine p_val c1 (p_val c2 ?_)
      rw [e1]
      exact hM1 _ hp
  · refine ⟨-1, cs, ms, ?_, ?_, R⟩
    · intro post hp
      unfold wC_X11_eased
      rw [q_isOutR R.1, p_b0]
      simp only [q_isFall, p_b0]
      exact p_inv hp (fun c1 => p_inv hp (fun c2 => absurd ⟨c1, c2⟩ c))
    · intro post hp
      unfold wM_eased
      rw [m_isAtHouse hC, p_b0]
      simp only [m_isKind, p_b0]
      exact p_inv hp (fun c1 => p_inv hp (fun c2 => absurd ⟨c1, c2⟩ c))
