/-! PURE LAYER: undo, send, rest -/
theorem Un_out {m s t : Nat} {a a' : Nat → Int32} (U : Undone m s t a a') {k : Nat} (h4 : k ≠ 4) (h : k < 7 ∨ k = 14 ∨ k = 15 ∨ k = 20 ∨ k = 21 ∨ k = 26 ∨ k = 27 ∨ k = 32 ∨ k = 33 ∨ k = 38 ∨ k = 39 ∨ k = 44 ∨ k = 45 ∨ k = 49 ∨ k = 50 ∨ k = 54 ∨ k = 55 ∨ k = 59 ∨ k = 60 ∨ k = 64 ∨ k = 65 ∨ k = 69 ∨ k = 70 ∨ (71 ≤ k ∧ k < 2424) ∨ 2454 ≤ k) : a' k = a k := by
  refine U.2.2 k h4 ?_
  intro i hi
  have := ix_deed72 i hi
  omega
theorem RN_undo {rows now a a' : Nat → Int32} {p m s t : Nat} (hs : s ≤ 6) (ht : t ≤ 5) (N : RN now a) (hr : ∀ i, i < 74 → rows (74 * ((p + m) % 30) + i) = a (204 + 74 * m + jx i) ∧ lo i ≤ a (204 + 74 * m + jx i) ∧ a (204 + 74 * m + jx i) ≤ hi i) (U : Undone m s t a a') : RN (tbN rows now (74 * ((p + m) % 30)) s t) a' := by
  intro i hi
  obtain ⟨t1, t2⟩ := tbN_at rows now (74 * ((p + m) % 30)) hs ht i hi
  obtain ⟨u1, u2⟩ := U.1 i hi
  by_cases c : cpI s t i
  · rw [t1 c, u1 c]
    have := hr i hi
    exact ⟨this.1, this.1 ▸ this.2⟩
  · rw [t2 c, u2 c]
    exact N i hi
theorem RS_undo {rows a a' : Nat → Int32} {p m s t : Nat} (R : RS rows (nI p) a) (hp : p < 30) (hm : m < 30) (e : a 4 = nI (m + 1)) (U : Undone m s t a a') : RS rows (nI p) a' := by
  obtain ⟨p', n, q1, q2, q3, q4, q5, q6, q7⟩ := R
  have ep : p' = p := ((nI_eq (by omega) (by omega)).mp q1).symm
  have en' : n = m + 1 := by
    rw [e] at q3
    exact ((nI_eq (by omega) (by omega)).mp q3).symm
  subst ep en'
  have ho : ∀ j, j < m + 1 → ∀ i, i < 74 → a' (204 + 74 * j + i) = a (204 + 74 * j + i) := fun j hj i hi => Un_out U (by omega) (by omega)
  have ho2 : ∀ j, j < m + 1 → ∀ i, i < 74 → a' (204 + 74 * j + jx i) = a (204 + 74 * j + jx i) := fun j hj i hi => ho j hj _ (jx_lt i hi)
  refine ⟨p', m, rfl, hp, U.2.1, by omega, ?_, ?_, ?_⟩
  · intro j hj i hi
    rw [ho2 j (by omega) i hi]
    exact q5 j (by omega) i hi
  · intro j hj
    exact asTold_off (q6 j (by omega)) (ho2 j (by omega)) (ho2 (j + 1) (by omega)) (fun h hh _ => Un_out U (by omega) (by omega))
  · intro j hj
    have e0 := ho j (by omega) 0 (by omega)
    have e1 := ho j (by omega) 1 (by omega)
    rw [Nat.add_zero] at e0
    rw [show 204 + 74 * j + 1 = 205 + 74 * j by omega] at e1
    rw [e0, e1, Un_out U (k := 0) (by omega) (by omega), Un_out U (k := 1) (by omega) (by omega)]
    exact q7 j (by omega)
theorem Top_undo {rows a a' : Nat → Int32} {p m s t : Nat} (hs : s ≤ 6) (ht : t ≤ 5) (R : RS rows (nI p) a) (T : Top a) (hm : m < 30) (e : a 4 = nI (m + 1)) (es : a (204 + 74 * m) = nI s) (et : a (205 + 74 * m) = nI t) (U : Undone m s t a a') : Top a' := by
  intro n hn en
  rw [U.2.1] at en
  have em : m = n + 1 := (nI_eq (by omega) (by omega)).mp en
  subst em
  obtain ⟨p', n', q1, q2, q3, q4, q5, q6, q7⟩ := R
  have en' : n' = n + 1 + 1 := by
    rw [e] at q3
    exact ((nI_eq (by omega) (by omega)).mp q3).symm
  subst en'
  obtain ⟨g1, g2, g3, g4⟩ := q6 n (by omega)
  obtain ⟨h1, h2, h3, h4⟩ := T (n + 1) hm e
  have v72 : a (204 + 74 * (n + 1) + jx 72) = nI s := es
  have v73 : a (204 + 74 * (n + 1) + jx 73) = nI t := by
    rw [jx_73, show 204 + 74 * (n + 1) + 1 = 205 + 74 * (n + 1) by omega]
    exact et
  have w72 : a' (ix 72) = a (ix 72) := (U.1 72 (by omega)).2 (by unfold cpI; omega)
  have w73 : a' (ix 73) = a (ix 73) := (U.1 73 (by omega)).2 (by unfold cpI; omega)
  have ho : ∀ i, i < 74 → a' (204 + 74 * n + jx i) = a (204 + 74 * n + jx i) := by
    intro i hi
    have := jx_lt i hi
    exact Un_out U (by omega) (by omega)
  have g1' : a (204 + 74 * n + jx 72) ≤ a (204 + 74 * (n + 1) + jx 72) := g1
  have g2' : a (204 + 74 * n + jx 73) ≤ a (204 + 74 * (n + 1) + jx 73) := g2
  have h1' : a (204 + 74 * (n + 1) + jx 72) ≤ a (ix 72) := h1
  have h2' : a (204 + 74 * (n + 1) + jx 73) ≤ a (ix 73) := h2
  refine ⟨?_, ?_, ?_, ?_⟩
  · show a' (204 + 74 * n + jx 72) ≤ a' (ix 72)
    rw [ho 72 (by omega), w72]
    exact Int32.le_trans g1' h1'
  · show a' (204 + 74 * n + jx 73) ≤ a' (ix 73)
    rw [ho 73 (by omega), w73]
    exact Int32.le_trans g2' h2'
  · intro h hh b1 b2
    have b1' : a' (204 + 74 * n + jx 72) ≤ nI h := b1
    have b2' : nI h < a' (ix 72) := b2
    rw [ho 72 (by omega)] at b1'
    rw [w72] at b2'
    show a' (ix h) = a' (15 + 6 * h) ∧ a' (ix (6 + h)) = 0 ∧ a' (ix (12 + h)) = -1 ∧ a' (ix (18 + h)) = 0
    rw [Un_out U (k := 15 + 6 * h) (by omega) (by omega)]
    by_cases c : h < s
    · rw [(U.1 h (by omega)).1 (by unfold cpI; omega), (U.1 (6 + h) (by omega)).1 (by unfold cpI; omega), (U.1 (12 + h) (by omega)).1 (by unfold cpI; omega), (U.1 (18 + h) (by omega)).1 (by unfold cpI; omega)]
      exact g3 h hh b1' (by show nI h < a (204 + 74 * (n + 1) + jx 72); rw [v72]; exact nI_lt c (by omega))
    · rw [(U.1 h (by omega)).2 (by unfold cpI; omega), (U.1 (6 + h) (by omega)).2 (by unfold cpI; omega), (U.1 (12 + h) (by omega)).2 (by unfold cpI; omega), (U.1 (18 + h) (by omega)).2 (by unfold cpI; omega)]
      exact h3 h hh (by show a (204 + 74 * (n + 1) + jx 72) ≤ nI h; rw [v72]; exact nI_le (by omega) (by omega)) b2'
  · intro h hh b1 b2
    have b1' : a' (204 + 74 * n + jx 73) ≤ nI h := b1
    have b2' : nI h < a' (ix 73) := b2
    rw [ho 73 (by omega)] at b1'
    rw [w73] at b2'
    show a' (ix (24 + h)) = 0 ∧ a' (ix (29 + h)) = -1 ∧ a' (ix (34 + h)) = 0
    by_cases c : h < t
    · rw [(U.1 (24 + h) (by omega)).1 (by unfold cpI; omega), (U.1 (29 + h) (by omega)).1 (by unfold cpI; omega), (U.1 (34 + h) (by omega)).1 (by unfold cpI; omega)]
      exact g4 h hh b1' (by show nI h < a (204 + 74 * (n + 1) + jx 73); rw [v73]; exact nI_lt c (by omega))
    · rw [(U.1 (24 + h) (by omega)).2 (by unfold cpI; omega), (U.1 (29 + h) (by omega)).2 (by unfold cpI; omega), (U.1 (34 + h) (by omega)).2 (by unfold cpI; omega)]
      exact h4 h hh (by show a (204 + 74 * (n + 1) + jx 73) ≤ nI h; rw [v73]; exact nI_le (by omega) (by omega)) b2'
theorem sim_undo {cs : CS} {ms : MS} (R : Rel cs ms) : ∃ (r : Int32) (cs' : CS) (ms' : MS), rt (wC_X11_undo  cs) r cs' ∧ rt (wM_undo  ms) r ms' ∧ Rel cs' ms' := by
  have hc := bd_count R.1.1
  have ec := rd_count R.1.1
  obtain ⟨p, n, q1, q2, q3, q4, q5, q6, q7⟩ := R.1.1.2.2.2.1
  have ef : cx_cs_first cs = nI p := q1
  have RS0 : RS (cx_cs_rows cs) (nI p) (ms_a ms) := by
    have := R.1.1.2.2.2.1
    rw [show cc_first cs.1 = nI p from q1] at this
    exact this
  have hH := bd_houses R.1.1
  have hC := bd_clowns R.1.1
  obtain ⟨H, hH6, eH⟩ := p_rng2 (n := 6) (by decide) hH.1 hH.2
  obtain ⟨C, hC5, eC⟩ := p_rng2 (n := 5) (by decide) hC.1 hC.2
  by_cases c : n = 0
  · subst c
    refine ⟨-1, cs, ms, ?_, ?_, R⟩
    · intro post hp
      unfold wC_X11_undo
      exact p_yes (by rw [ec, q3]; rfl) hp
    · intro post hp
      unfold wM_undo
      exact p_yes q3 hp
  · obtain ⟨m, rfl⟩ : ∃ m, n = m + 1 := ⟨n - 1, by omega⟩
    have r72 := q5 m (by omega) 72 (by omega)
    have r73 := q5 m (by omega) 73 (by omega)
    have q7' := q7 m (by omega)
    have x72 : 204 + 74 * m + jx 72 = 204 + 74 * m := rfl
    have x73 : 204 + 74 * m + jx 73 = 205 + 74 * m := by rw [jx_73]; omega
    rw [x72] at r72
    rw [x73] at r73
    obtain ⟨s, hs6, es⟩ := p_rng2 (n := 6) (by decide) r72.2.1 r72.2.2
    obtain ⟨t, ht5, et⟩ := p_rng2 (n := 5) (by decide) r73.2.1 r73.2.2
    have hsH : s ≤ H := by
      have := q7'.1
      rw [es, eH] at this
      exact (nI_leI (by omega) (by omega)).mp this
    have htC : t ≤ C := by
      have := q7'.2
      rw [et, eC] at this
      exact (nI_leI (by omega) (by omega)).mp this
    obtain ⟨k1, k2, k3, k4⟩ := R.2 m (by omega) q3
    obtain ⟨a', U, hM⟩ := m_undo (ms := ms) (m := m) (by omega) hsH hH6 htC hC5 q3 es et eH eC (by
      intro h h1 h2
      have q := k3 h (by omega) (by show ms_a ms (204 + 74 * m + jx 72) ≤ nI h; rw [x72, es]; exact nI_le h1 (by omega)) (by show nI h < ms_a ms 0; rw [eH]; exact nI_lt h2 (by omega))
      have q' : ms_a ms (ix h) = ms_a ms (15 + 6 * h) ∧ ms_a ms (ix (6 + h)) = 0 ∧ ms_a ms (ix (12 + h)) = -1 ∧ ms_a ms (ix (18 + h)) = 0 := q
      rw [ix_grief (by omega), ix_mood (by omega), ix_clock (by omega), ix_laughed (by omega)] at q'
      exact q') (by
      intro h h1 h2
      have q := k4 h (by omega) (by show ms_a ms (204 + 74 * m + jx 73) ≤ nI h; rw [x73, et]; exact nI_le h1 (by omega)) (by show nI h < ms_a ms 1; rw [eC]; exact nI_lt h2 (by omega))
      have q' : ms_a ms (ix (24 + h)) = 0 ∧ ms_a ms (ix (29 + h)) = -1 ∧ ms_a ms (ix (34 + h)) = 0 := q
      rw [ix_tired (by omega), ix_place (by omega), ix_falls (by omega)] at q'
      exact q')
    have ecs : (cx_set_c_now (cx_set_cs_count cs (nI m)) (tbN (cx_cs_rows cs) (cx_c_now cs) (74 * ((p + m) % 30)) s t)).1 = (tbN (cx_cs_rows cs) (cx_c_now cs) (74 * ((p + m) % 30)) s t, cs.1.2.1, cs.1.2.2.1, cs.1.2.2.2.1, cs.1.2.2.2.2.1, cs.1.2.2.2.2.2.1, cs.1.2.2.2.2.2.2.1, cs.1.2.2.2.2.2.2.2.1, cs.1.2.2.2.2.2.2.2.2.1, cs.1.2.2.2.2.2.2.2.2.2.1, cs.1.2.2.2.2.2.2.2.2.2.2.1, cs.1.2.2.2.2.2.2.2.2.2.2.2.1, cs.1.2.2.2.2.2.2.2.2.2.2.2.2.1, cs.1.2.2.2.2.2.2.2.2.2.2.2.2.2.1, cs.1.2.2.2.2.2.2.2.2.2.2.2.2.2.2.1, cs.1.2.2.2.2.2.2.2.2.2.2.2.2.2.2.2.1, cs.1.2.2.2.2.2.2.2.2.2.2.2.2.2.2.2.2.1, nI m) := by
      simp only [cx_set_c_now, cx_set_cs_count]
    have ec2 : (cx_set_c_now (cx_set_cs_count cs (nI m)) (tbN (cx_cs_rows cs) (cx_c_now cs) (74 * ((p + m) % 30)) s t)).2 = cs.2 := by
      simp only [cx_set_c_now, cx_set_cs_count]
    refine ⟨nI m, cx_set_c_now (cx_set_cs_count cs (nI m)) (tbN (cx_cs_rows cs) (cx_c_now cs) (74 * ((p + m) % 30)) s t), ms_set_a ms a', ?_, hM, ?_⟩
    · intro post hp
      unfold wC_X11_undo
      refine p_no ?_ (q_takeBack q2 (by omega) hs6 ht5 ef (ec.trans q3) (r72.1.trans es) (r73.1.trans et) _ ?_)
      · rw [ec, q3]
        exact nI_ne0 (by omega) (by omega)
      · have e9 : cx_cs_count (cx_set_c_now (cx_set_cs_count cs (nI m)) (tbN (cx_cs_rows cs) (cx_c_now cs) (74 * ((p + m) % 30)) s t)) = nI m := by
          simp only [cx_cs_count, cx_set_c_now, cx_set_cs_count]
        rw [e9]
        exact hp
    · refine Rel_a R ec2 ?_ ?_ ?_ (Top_undo hs6 ht5 RS0 R.2 (by omega) q3 es et U)
      · rw [ecs]
        simp only [cc_texts]
      · rw [ecs]
        simp only [cc_textCount]
      · rw [ecs]
        have oth : ∀ k, k ≠ 4 → (k < 7 ∨ k = 14 ∨ k = 15 ∨ k = 20 ∨ k = 21 ∨ k = 26 ∨ k = 27 ∨ k = 32 ∨ k = 33 ∨ k = 38 ∨ k = 39 ∨ k = 44 ∨ k = 45 ∨ k = 49 ∨ k = 50 ∨ k = 54 ∨ k = 55 ∨ k = 59 ∨ k = 60 ∨ k = 64 ∨ k = 65 ∨ k = 69 ∨ k = 70 ∨ (71 ≤ k ∧ k < 2424) ∨ 2454 ≤ k) → a' k = ms_a ms k := fun k h4 h => Un_out U h4 h
        refine ⟨RN_undo hs6 ht5 R.1.1.1 (q5 m (by omega)) U, ?_, ?_, ?_, ?_⟩
        · have q := RO_count R.1.1.2.1 (v := nI m) (nI_pos' (by omega)) (nI_le (b := 30) (by omega) (by decide))
          refine RO_ext (RO_off q ?_) ?_
          · intro i h1 h2
            by_cases e4 : ix i = 4
            · rw [e4, upd_eq]
              exact U.2.1
            · rw [upd_ne _ _ e4]
              exact U.2.2 _ e4 (ix_deed i h1 h2)
          · intro i h1 h2
            refine oC_ext (j := 0) ?_ ?_ ?_ ?_ ?_ ?_ ?_ ?_ ?_ ?_ ?_ ?_ i h1 h2 (by omega)
            · intro _ _ _
              simp only [cc_kinds]
            · intro _ _ _
              simp only [cc_skills]
            · intro _ _ _
              simp only [cc_ages]
            · intro _ _ _
              simp only [cc_turns]
            · intro _ _ _
              simp only [cc_costs]
            · intro _ _ _
              simp only [cc_worths]
            · intro _ _ _
              simp only [cc_aheads]
            · intro _
              simp only [cc_textCount]
            · intro _
              simp only [cc_ruling]
            · intro _
              simp only [cc_trialCount]
            · intro _
              simp only [cc_grownCount]
            · intro _
              simp only [cc_count]
        · show RT (cx_c_trials cs) (cx_c_growns cs) a'
          refine RT_off R.1.1.2.2.1 ?_
          intro k hk
          exact oth k (by omega) (by omega)
        · show RS (cx_cs_rows cs) (cx_cs_first cs) a'
          rw [ef]
          exact RS_undo RS0 q2 (by omega) q3 U
        · rw [oth 3 (by omega) (by omega), oth 2 (by omega) (by omega)]
          exact R.1.1.2.2.2.2
/-! deeds: only now changes -/
theorem dC_now (S : CS) (f : Nat → Int32) : dC S (cx_set_c_now S f) := by
  refine ⟨?_, ?_, ?_, ?_, ?_⟩ <;> simp only [cx_set_c_now]
theorem dM_a (S : MS) (f : Nat → Int32) : dM S (ms_set_a S f) := ⟨rfl, rfl, rfl, rfl, rfl, rfl, rfl⟩
theorem Rel_deed {cs cs' : CS} {ms ms' : MS} (R : Rel0 cs ms) (F : Fresh (ms_a ms)) (h : dC cs cs') (g : dM ms ms') (N : RN (cx_c_now cs') (ms_a ms')) (f : fr (ms_a ms) (ms_a ms')) : Rel cs' ms' := ⟨Rel0_d R h g N f, Top_fresh (fr_Fresh f F)⟩
theorem RN_place {f a : Nat → Int32} (N : RN f a) {c : Nat} (hc : c < 5) {v : Int32} (h0 : -1 ≤ v) (h1 : v ≤ 5) : RN (upd f (29 + c) v) (upd a (47 + 5 * c) v) := by
  have q := RN_upd N (i := 29 + c) (by omega) (v := v) (by rw [lo_place hc]; exact h0) (by rw [hi_place hc]; exact h1)
  rw [ix_place hc] at q
  exact q
theorem fr_place (a : Nat → Int32) {c : Nat} (hc : c < 5) (v : Int32) : fr a (upd a (47 + 5 * c) v) := by
  have q := fr_upd a (i := 29 + c) (by omega) v
  rw [ix_place hc] at q
  exact q
theorem q_goes {c : Nat} (hc : c < 5) (v : Int32) (S : CS) (post : CS → Prop) : wC_X2_goes (nI c) v S post = post (cx_set_c_now S (upd (cx_c_now S) (29 + c) v)) := by
  unfold wC_X2_goes
  exact q_set_place hc v S _
theorem sim_send {cs : CS} {ms : MS} (R : Rel cs ms) (p1 p2 : Int32) : ∃ (r : Int32) (cs' : CS) (ms' : MS), rt (wC_X11_send p1 p2 cs) r cs' ∧ rt (wM_send p1 p2 ms) r ms' ∧ Rel cs' ms' ∧ (r = 0 ∨ r = 1) ∧ kT cs ms cs' ms' := by
  have hH := bd_houses R.1.1
  have eH := rd_houses R.1.1
  have hC := bd_clowns R.1.1
  have eC := rd_clowns R.1.1
  by_cases c : (0 ≤ p1 ∧ p1 < ms_a ms 1) ∧ (0 ≤ p2 ∧ p2 < ms_a ms 0) ∧ ¬ ms_a ms (47 + 5 * p1.toNatClampNeg) = p2
  · obtain ⟨c1, c2, c3⟩ := c
    obtain ⟨j, hj, rfl⟩ := p_rng (n := 5) (by decide) c1.1 (Int32.lt_of_lt_of_le c1.2 hC.2)
    rw [nI_clamp (by omega)] at c3
    obtain ⟨cs1, ms1, K1, K2, R1, F1, N1, A1, T1⟩ := sim_keepT R
    refine ⟨1, cx_set_c_now cs1 (upd (cx_c_now cs1) (29 + j) p2), ms_set_a ms1 (upd (ms_a ms1) (47 + 5 * j) p2), ?_, ?_, ?_, Or.inr rfl, T1.1, (show upd (ms_a ms1) (47 + 5 * j) p2 2 = ms_a ms1 2 from upd_ne _ _ (by omega)).trans T1.2⟩
    · intro post hp
      unfold wC_X11_send wC_X2_canGo
      simp only [q_hasClown, q_hasHouse, p_b0, q_see_place hj]
      rw [eC, eH, rd_place R.1.1 hj]
      refine p_val c1 (p_val c2 (p_no c3 (p_no (by decide) (K1 _ ?_))))
      rw [q_goes hj]
      exact hp
    · intro post hp
      unfold wM_send wM_canSend
      rw [m_isClown _ hC]
      simp only [p_b0]
      rw [m_isHouse _ hH]
      simp only [p_b0, m_own_at hj]
      refine p_val c1 (p_val c2 (p_no c3 (p_no (by decide) (K2 _ ?_))))
      rw [m_lay_at hj]
      exact hp
    · refine Rel_deed R1.1 F1 (dC_now _ _) (dM_a _ _) ?_ ?_
      · rw [gs_now_now, g_aa]
        exact RN_place R1.1.1.1 hj (by grind) (by grind)
      · rw [g_aa]
        exact fr_place _ hj _
  · refine ⟨0, cs, ms, ?_, ?_, R, Or.inl rfl, rfl, rfl⟩
    · intro post hp
      unfold wC_X11_send wC_X2_canGo
      simp only [q_hasClown, q_hasHouse, p_b0]
      rw [eC, eH]
      refine p_inv (p_yes trivial hp) (fun c1 => p_inv (p_yes trivial hp) (fun c2 => ?_))
      obtain ⟨j, hj, rfl⟩ := p_rng (n := 5) (by decide) c1.1 (Int32.lt_of_lt_of_le c1.2 hC.2)
      rw [q_see_place hj, rd_place R.1.1 hj]
      refine p_two (fun _ => p_yes trivial hp) (fun c3 => ?_)
      rw [nI_clamp (by omega)] at c
      exact absurd ⟨c1, c2, c3⟩ c
    · intro post hp
      unfold wM_send wM_canSend
      rw [m_isClown _ hC]
      simp only [p_b0]
      rw [m_isHouse _ hH]
      simp only [p_b0]
      refine p_inv (p_yes trivial hp) (fun c1 => p_inv (p_yes trivial hp) (fun c2 => ?_))
      obtain ⟨j, hj, rfl⟩ := p_rng (n := 5) (by decide) c1.1 (Int32.lt_of_lt_of_le c1.2 hC.2)
      rw [m_own_at hj]
      refine p_two (fun _ => p_yes trivial hp) (fun c3 => ?_)
      rw [nI_clamp (by omega)] at c
      exact absurd ⟨c1, c2, c3⟩ c
theorem sim_rest {cs : CS} {ms : MS} (R : Rel cs ms) (p1 : Int32) : ∃ (r : Int32) (cs' : CS) (ms' : MS), rt (wC_X11_rest p1 cs) r cs' ∧ rt (wM_rest p1 ms) r ms' ∧ Rel cs' ms' ∧ (r = 0 ∨ r = 1) ∧ kT cs ms cs' ms' := by
  have hC := bd_clowns R.1.1
  have eC := rd_clowns R.1.1
  have cls : ∀ post : Int32 → CS → Prop, wC_X2_canRest p1 cs post = post (if (0 ≤ p1 ∧ p1 < ms_a ms 1) ∧ ¬ ms_a ms (47 + 5 * p1.toNatClampNeg) = -1 then 1 else 0) cs := by
    intro post
    unfold wC_X2_canRest
    rw [q_isOut (by rw [eC]; exact hC.2), eC]
    by_cases c : 0 ≤ p1 ∧ p1 < ms_a ms 1
    · obtain ⟨j, hj, rfl⟩ := p_rng (n := 5) (by decide) c.1 (Int32.lt_of_lt_of_le c.2 hC.2)
      rw [nI_clamp (by omega), rd_place R.1.1 hj]
      simp only [p_nb, true_and]
    · rw [if_neg (fun q => c q.1), if_neg (fun q => c q.1)]
      exact propext ⟨fun q => q.2, fun q => ⟨rfl, q⟩⟩
  by_cases c : (0 ≤ p1 ∧ p1 < ms_a ms 1) ∧ ¬ ms_a ms (47 + 5 * p1.toNatClampNeg) = -1
  · obtain ⟨j, hj, rfl⟩ := p_rng (n := 5) (by decide) c.1.1 (Int32.lt_of_lt_of_le c.1.2 hC.2)
    obtain ⟨cs1, ms1, K1, K2, R1, F1, N1, A1, T1⟩ := sim_keepT R
    refine ⟨1, cx_set_c_now cs1 (upd (cx_c_now cs1) (29 + j) (-1)), ms_set_a ms1 (upd (ms_a ms1) (47 + 5 * j) (-1)), ?_, ?_, ?_, Or.inr rfl, T1.1, (show upd (ms_a ms1) (47 + 5 * j) (-1) 2 = ms_a ms1 2 from upd_ne _ _ (by omega)).trans T1.2⟩
    · intro post hp
      unfold wC_X11_rest
      rw [cls, p_b0]
      refine p_val c (K1 _ ?_)
      rw [q_goes hj]
      exact hp
    · intro post hp
      unfold wM_rest
      rw [m_isAtHouse hC, p_b0]
      refine p_val c (K2 _ ?_)
      rw [m_lay_at hj]
      exact hp
    · refine Rel_deed R1.1 F1 (dC_now _ _) (dM_a _ _) ?_ ?_
      · rw [gs_now_now, g_aa]
        exact RN_place R1.1.1.1 hj (by decide) (by decide)
      · rw [g_aa]
        exact fr_place _ hj _
  · refine ⟨0, cs, ms, ?_, ?_, R, Or.inl rfl, rfl, rfl⟩
    · intro post hp
      unfold wC_X11_rest
      rw [cls, p_b0]
      exact p_inv hp (fun c1 => absurd c1 c)
    · intro post hp
      unfold wM_rest
      rw [m_isAtHouse hC, p_b0]
      exact p_inv hp (fun c1 => absurd c1 c)
