/-! PURE LAYER: feed, house, clown -/
def RPn (n : Nat) (cs : CS) (ms : MS) : Prop := cx_r_length cs = nI n ∧ ms_taped ms = nI n ∧ ∀ i, i < n → cx_r_tape cs i = ms_tape ms i ∧ 0 ≤ cx_r_tape cs i ∧ cx_r_tape cs i ≤ 255
def fC (S S' : CS) : Prop := S'.1 = S.1 ∧ S'.2.1 = S.2.1 ∧ S'.2.2.2 = S.2.2.2 ∧ cx_r_lastFault S' = cx_r_lastFault S ∧ cx_r_lastPlace S' = cx_r_lastPlace S
def fM (S S' : MS) : Prop := ms_a S' = ms_a S ∧ ms_image S' = ms_image S ∧ ms_texts S' = ms_texts S ∧ ms_fault S' = ms_fault S ∧ ms_faultPlace S' = ms_faultPlace S
theorem fC_trans {S T U : CS} (h : fC S T) (g : fC T U) : fC S U := ⟨g.1.trans h.1, g.2.1.trans h.2.1, g.2.2.1.trans h.2.2.1, g.2.2.2.1.trans h.2.2.2.1, g.2.2.2.2.trans h.2.2.2.2⟩
theorem fM_trans {S T U : MS} (h : fM S T) (g : fM T U) : fM S U := ⟨g.1.trans h.1, g.2.1.trans h.2.1, g.2.2.1.trans h.2.2.1, g.2.2.2.1.trans h.2.2.2.1, g.2.2.2.2.trans h.2.2.2.2⟩
def byC (n : Nat) (b : Int32) (S : CS) : CS := cx_set_r_length (cx_set_r_tape S (upd (cx_r_tape S) n b)) (nI (n + 1))
def byM (n : Nat) (b : Int32) (S : MS) : MS := ms_set_taped (ms_set_tape S (upd (ms_tape S) n b)) (nI (n + 1))
theorem byC_f (n : Nat) (b : Int32) (S : CS) : fC S (byC n b S) := ⟨rfl, rfl, rfl, rfl, rfl⟩
theorem byM_f (n : Nat) (b : Int32) (S : MS) : fM S (byM n b S) := ⟨rfl, rfl, rfl, rfl, rfl⟩
theorem by_RP {n : Nat} {b : Int32} {cs : CS} {ms : MS} (h : RPn n cs ms) (h0 : 0 ≤ b) (h1 : b ≤ 255) : RPn (n + 1) (byC n b cs) (byM n b ms) := by
  refine ⟨rfl, rfl, ?_⟩
  intro i hi
  show upd (cx_r_tape cs) n b i = upd (ms_tape ms) n b i ∧ 0 ≤ upd (cx_r_tape cs) n b i ∧ upd (cx_r_tape cs) n b i ≤ 255
  by_cases e : i = n
  · subst e
    rw [upd_eq, upd_eq]
    exact ⟨rfl, h0, h1⟩
  · rw [upd_ne _ _ e, upd_ne _ _ e]
    exact h.2.2 i (by omega)
theorem by_C {n : Nat} {cs : CS} (hn : n < 300) (e : cx_r_length cs = nI n) (post : CS → Prop) (k : Nat) (x sh : Int32) (h0 : ¬ sh < 0) (h : wC_X6_addBytes_3 post k x (sh + (-8)) (byC n (k_shr x sh &&& 255) cs)) : wC_X6_addBytes_3 post (k + 1) x sh cs := by
  rw [wC_X6_addBytes_3]
  refine p_no h0 ?_
  intro S2 e2 S3 e3
  rw [e, p_put (by decide) _ hn] at e2
  have e4 : cx_r_length S2 = nI n := by
    rw [e2]
    exact e
  rw [e4, nI_1, e2] at e3
  rw [e3]
  exact h
theorem by_M {n : Nat} {ms : MS} (hn : n < 300) (e : ms_taped ms = nI n) (post : MS → Prop) (k : Nat) (x sh : Int32) (h0 : ¬ sh < 0) (h : wM_four_3 post k x (sh + (-8)) (byM n (k_shr x sh &&& 255) ms)) : wM_four_3 post (k + 1) x sh ms := by
  rw [wM_four_3]
  refine p_no h0 ?_
  rw [e, p_vp hn (by decide)]
  intro S2 e2 S3 e3
  rw [nI_clamp (by omega)] at e2
  have e4 : ms_taped S2 = nI n := by
    rw [e2]
    exact e
  rw [e4, nI_1, e2] at e3
  rw [e3]
  exact h
theorem by_255 (x : Int32) : 0 ≤ x &&& 255 ∧ x &&& 255 ≤ 255 := by
  rw [pk_and x (m := 255) 8 (by decide)]
  have : x.toBitVec.toNat % 2 ^ 8 < 256 := Nat.mod_lt _ (by decide)
  exact ⟨nI_pos' (by omega), nI_le (b := 255) (by omega) (by decide)⟩
theorem sim_four {n : Nat} {cs : CS} {ms : MS} (hn : n + 4 ≤ 300) (x : Int32) (P : RPn n cs ms) : ∃ (cs' : CS) (ms' : MS), rv (wC_X6_addBytes x cs) cs' ∧ rv (wM_four x ms) ms' ∧ RPn (n + 4) cs' ms' ∧ fC cs cs' ∧ fM ms ms' := by
  have b0 := by_255 (k_shr x 24)
  have b1 := by_255 (k_shr x (24 + (-8)))
  have b2 := by_255 (k_shr x (24 + (-8) + (-8)))
  have b3 := by_255 (k_shr x (24 + (-8) + (-8) + (-8)))
  have P1 := by_RP P b0.1 b0.2
  have P2 := by_RP P1 b1.1 b1.2
  have P3 := by_RP P2 b2.1 b2.2
  have P4 := by_RP P3 b3.1 b3.2
  refine ⟨_, _, ?_, ?_, P4, fC_trans (byC_f _ _ _) (fC_trans (byC_f _ _ _) (fC_trans (byC_f _ _ _) (byC_f _ _ _))), fM_trans (byM_f _ _ _) (fM_trans (byM_f _ _ _) (fM_trans (byM_f _ _ _) (byM_f _ _ _)))⟩
  · intro post hp
    refine ⟨5, by_C (by omega) P.1 post 4 x 24 (by decide) (by_C (by omega) P1.1 post 3 x _ (by decide) (by_C (by omega) P2.1 post 2 x _ (by decide) (by_C (by omega) P3.1 post 1 x _ (by decide) ?_)))⟩
    rw [wC_X6_addBytes_3]
    exact p_yes (by decide) hp
  · intro post hp
    refine ⟨5, by_M (by omega) P.2.1 post 4 x 24 (by decide) (by_M (by omega) P1.2.1 post 3 x _ (by decide) (by_M (by omega) P2.2.1 post 2 x _ (by decide) (by_M (by omega) P3.2.1 post 1 x _ (by decide) ?_)))⟩
    rw [wM_four_3]
    exact p_yes (by decide) hp
theorem sim_feed {cs : CS} {ms : MS} (R : Rel cs ms) (p1 p2 p3 p4 p5 : Int32) : ∃ (r : Int32) (cs' : CS) (ms' : MS), rt (wC_X11_feed p1 p2 p3 p4 p5 cs) r cs' ∧ rt (wM_feed p1 p2 p3 p4 p5 ms) r ms' ∧ Rel cs' ms' := by
  obtain ⟨e1, e2, e3, e4, e5, e6⟩ := R.1.2.2.2.2
  obtain ⟨n, hn, en⟩ := p_rng2 (n := 300) (by decide) e2 e3
  have eL : cx_r_length cs = nI n := en
  have eM : ms_taped ms = nI n := e1.symm.trans en
  by_cases c : n ≤ 280
  · have P : RPn n cs ms := by
      refine ⟨eL, eM, ?_⟩
      intro i hi
      refine e4 i (by omega) ?_
      rw [en]
      exact nI_lt hi (by omega)
    obtain ⟨c1, m1, C1, M1, P1, F1, G1⟩ := sim_four (by omega) p1 P
    obtain ⟨c2, m2, C2, M2, P2, F2, G2⟩ := sim_four (by omega) p2 P1
    obtain ⟨c3, m3, C3, M3, P3, F3, G3⟩ := sim_four (by omega) p3 P2
    obtain ⟨c4, m4, C4, M4, P4, F4, G4⟩ := sim_four (by omega) p4 P3
    obtain ⟨c5, m5, C5, M5, P5, F5, G5⟩ := sim_four (by omega) p5 P4
    have F := fC_trans F1 (fC_trans F2 (fC_trans F3 (fC_trans F4 F5)))
    have G := fM_trans G1 (fM_trans G2 (fM_trans G3 (fM_trans G4 G5)))
    refine ⟨nI (n + 4 + 4 + 4 + 4 + 4), c5, m5, ?_, ?_, ?_⟩
    · intro post hp
      unfold wC_X11_feed wC_X6_hasRoom
      rw [eL]
      refine p_no ?_ ?_
      · intro h
        have := (nI_ltI (a := 280) (by decide) (by omega)).mp h
        omega
      · refine p_no (by decide) (C1 _ (C2 _ (C3 _ (C4 _ (C5 _ ?_)))))
        rw [P5.1]
        exact hp
    · intro post hp
      unfold wM_feed
      rw [eM, nI_al 20 n]
      refine p_yes (nI_le (b := 300) (by omega) (by decide)) (M1 _ (M2 _ (M3 _ (M4 _ (M5 _ ?_)))))
      rw [P5.2.1]
      exact hp
    · obtain ⟨f1, f2, f3, f4, f5⟩ := F
      obtain ⟨g1, g2, g3, g4, g5⟩ := G
      refine ⟨?_, by rw [g1]; exact R.2⟩
      unfold Rel0 RelV
      rw [f1, f2, show c5.2.2.2.2 = cs.2.2.2.2 by rw [f3], g1, g2, g3, g4, g5]
      refine ⟨R.1.1, R.1.2.1, R.1.2.2.1, R.1.2.2.2.1, ?_⟩
      have l1 : c5.2.2.1.1 = nI (n + 4 + 4 + 4 + 4 + 4) := P5.1
      refine ⟨?_, ?_, ?_, ?_, f4.trans e5, f5.trans e6⟩
      · rw [l1]
        exact P5.2.1.symm
      · rw [l1]
        exact nI_pos' (by omega)
      · rw [l1]
        exact nI_le (b := 300) (by omega) (by decide)
      · intro i hi h
        rw [l1] at h
        exact P5.2.2 i ((nI_ltI (by omega) (by omega)).mp h)
  · refine ⟨-1, cs, ms, ?_, ?_, R⟩
    · intro post hp
      unfold wC_X11_feed wC_X6_hasRoom
      rw [eL]
      exact p_yes (nI_lt (a := 280) (by omega) (by omega)) (p_yes rfl hp)
    · intro post hp
      unfold wM_feed
      rw [eM, nI_al 20 n]
      refine p_no ?_ hp
      intro h
      have := (nI_leI (b := 300) (by omega) (by decide)).mp h
      omega
theorem ix_kt {h : Nat} (hh : h < 6) (i : Nat) (hi : i < 74) : ix i ≠ 14 + 6 * h ∧ ix i ≠ 15 + 6 * h := by
  refine ⟨?_, ix_told i (by omega) h hh⟩
  rw [← ix_kinds hh]
  intro e
  have := ix_inj i (by omega) (74 + h) (by omega) e
  omega
def hsN (f : Nat → Int32) (h : Nat) (g : Int32) : Nat → Int32 := upd (upd (upd (upd (upd f h g) (6 + h) 0) (12 + h) (-1)) (18 + h) 0) 72 (nI (h + 1))
def hsA (a : Nat → Int32) (h : Nat) (k g : Int32) : Nat → Int32 := upd (upd (upd (upd (upd (upd (upd a (14 + 6 * h) k) (15 + 6 * h) g) (10 + 6 * h) g) (11 + 6 * h) 0) (12 + 6 * h) (-1)) (13 + 6 * h) 0) 0 (nI (h + 1))
theorem hsA_off (a : Nat → Int32) (h : Nat) (k g : Int32) {j : Nat} (h0 : j ≠ 0) (h1 : j < 10 + 6 * h ∨ 16 + 6 * h ≤ j) : hsA a h k g j = a j := by
  unfold hsA
  rw [upd_ne _ _ h0, upd_ne _ _ (by omega), upd_ne _ _ (by omega), upd_ne _ _ (by omega), upd_ne _ _ (by omega), upd_ne _ _ (by omega), upd_ne _ _ (by omega)]
theorem RN_house {f a : Nat → Int32} (R : RN f a) {h : Nat} (hh : h < 6) {k g : Int32} (h0 : 0 ≤ g) (h1 : g ≤ 99) : RN (hsN f h g) (hsA a h k g) := by
  have q0 : RN f (upd (upd a (14 + 6 * h) k) (15 + 6 * h) g) := by
    refine RN_off R ?_
    intro i hi
    obtain ⟨n1, n2⟩ := ix_kt hh i hi
    rw [upd_ne _ _ n2, upd_ne _ _ n1]
  have q1 := RN_upd q0 (i := h) (by omega) (v := g) (by rw [lo_grief hh]; exact h0) (by rw [hi_grief hh]; exact h1)
  rw [ix_grief hh] at q1
  have q2 := RN_upd q1 (i := 6 + h) (by omega) (v := 0) (by rw [lo_mood hh]; decide) (by rw [hi_mood hh]; decide)
  rw [ix_mood hh] at q2
  have q3 := RN_upd q2 (i := 12 + h) (by omega) (v := -1) (by rw [lo_clock hh]; decide) (by rw [hi_clock hh]; decide)
  rw [ix_clock hh] at q3
  have q4 := RN_upd q3 (i := 18 + h) (by omega) (v := 0) (by rw [lo_laughed hh]; decide) (by rw [hi_laughed hh]; decide)
  rw [ix_laughed hh] at q4
  exact RN_upd q4 (i := 72) (by omega) (v := nI (h + 1)) (nI_pos' (by omega)) (nI_le (b := 6) (by omega) (by decide))
theorem RC_house {c : CS_c} {a : Nat → Int32} (R : RC c a) {h : Nat} (hh : h < 6) (e : a 0 = nI h) {k g : Int32} (k0 : 0 ≤ k) (k1 : k ≤ 3) (h0 : 0 ≤ g) (h1 : g ≤ 99) : RC (hsN c.1 h g, upd c.2.1 h k, c.2.2) (hsA a h k g) := by
  refine ⟨RN_house R.1 hh h0 h1, ?_, ?_, ?_, ?_⟩
  · have q := RO_kinds R.2.1 hh k0 k1
    refine RO_ext (RO_off q ?_) (fun _ _ _ => rfl)
    intro i g1 g2
    unfold hsA
    have n1 := ix_told i g2 h hh
    have n2 : ix i ≠ 10 + 6 * h := by rw [← ix_grief hh]; intro e; have := ix_inj i g2 h (by omega) e; omega
    have n3 : ix i ≠ 11 + 6 * h := by rw [← ix_mood hh]; intro e; have := ix_inj i g2 (6 + h) (by omega) e; omega
    have n4 : ix i ≠ 12 + 6 * h := by rw [← ix_clock hh]; intro e; have := ix_inj i g2 (12 + h) (by omega) e; omega
    have n5 : ix i ≠ 13 + 6 * h := by rw [← ix_laughed hh]; intro e; have := ix_inj i g2 (18 + h) (by omega) e; omega
    have n6 : ix i ≠ 0 := by intro e; have := ix_inj i g2 72 (by omega) e; omega
    rw [upd_ne _ _ n6, upd_ne _ _ n5, upd_ne _ _ n4, upd_ne _ _ n3, upd_ne _ _ n2, upd_ne _ _ n1]
  · refine RT_off R.2.2.1 ?_
    intro j hj
    exact hsA_off _ _ _ _ (by omega) (by omega)
  · refine RS_off R.2.2.2.1 ?_ ?_ ?_ ?_
    · intro j hj
      exact hsA_off _ _ _ _ (by omega) (by omega)
    · intro j hj hl
      rw [e] at hl
      have := (nI_ltI (by omega) (by omega)).mp hl
      exact hsA_off _ _ _ _ (by omega) (by omega)
    · rw [e, show hsA a h k g 0 = nI (h + 1) from upd_eq _ _ _]
      exact nI_le (by omega) (by omega)
    · rw [hsA_off _ _ _ _ (j := 1) (by omega) (by omega)]
      exact Int32.le_refl _
  · rw [hsA_off _ _ _ _ (j := 3) (by omega) (by omega), hsA_off _ _ _ _ (j := 2) (by omega) (by omega)]
    exact R.2.2.2.2
theorem Top_house {a : Nat → Int32} (T : Top a) {h : Nat} (hh : h < 6) (e : a 0 = nI h) (k g : Int32) : Top (hsA a h k g) := by
  intro n hn en
  rw [hsA_off _ _ _ _ (by omega) (by omega)] at en
  obtain ⟨g1, g2, g3, g4⟩ := T n hn en
  have hr : ∀ i, i < 74 → hsA a h k g (204 + 74 * n + jx i) = a (204 + 74 * n + jx i) := by
    intro i hi
    exact hsA_off _ _ _ _ (by omega) (by omega)
  have g1' : a (204 + 74 * n + jx 72) ≤ a 0 := g1
  have g2' : a (204 + 74 * n + jx 73) ≤ a 1 := g2
  have h72 : hsA a h k g (ix 72) = nI (h + 1) := upd_eq _ _ _
  have h73 : hsA a h k g (ix 73) = a 1 := hsA_off _ _ _ _ (j := 1) (by omega) (by omega)
  refine ⟨?_, ?_, ?_, ?_⟩
  · show hsA a h k g _ ≤ hsA a h k g _
    rw [hr 72 (by omega), h72]
    rw [e] at g1'
    exact Int32.le_trans g1' (nI_le (by omega) (by omega))
  · show hsA a h k g _ ≤ hsA a h k g _
    rw [hr 73 (by omega), h73]
    exact g2'
  · intro j hj b1 b2
    have b1' : hsA a h k g (204 + 74 * n + jx 72) ≤ nI j := b1
    have b2' : nI j < hsA a h k g (ix 72) := b2
    rw [hr 72 (by omega)] at b1'
    rw [h72] at b2'
    have b3 := (nI_ltI (by omega) (by omega)).mp b2'
    show hsA a h k g (ix j) = hsA a h k g (15 + 6 * j) ∧ hsA a h k g (ix (6 + j)) = 0 ∧ hsA a h k g (ix (12 + j)) = -1 ∧ hsA a h k g (ix (18 + j)) = 0
    rw [ix_grief hj, ix_mood hj, ix_clock hj, ix_laughed hj]
    by_cases ej : j = h
    · subst ej
      unfold hsA
      refine ⟨?_, ?_, ?_, ?_⟩
      · rw [upd_ne _ _ (by omega), upd_ne _ _ (by omega), upd_ne _ _ (by omega), upd_ne _ _ (by omega), upd_eq, upd_ne _ _ (by omega), upd_ne _ _ (by omega), upd_ne _ _ (by omega), upd_ne _ _ (by omega), upd_ne _ _ (by omega), upd_eq]
      · rw [upd_ne _ _ (by omega), upd_ne _ _ (by omega), upd_ne _ _ (by omega), upd_eq]
      · rw [upd_ne _ _ (by omega), upd_ne _ _ (by omega), upd_eq]
      · rw [upd_ne _ _ (by omega), upd_eq]
    · rw [hsA_off _ _ _ _ (by omega) (by omega), hsA_off _ _ _ _ (by omega) (by omega), hsA_off _ _ _ _ (by omega) (by omega), hsA_off _ _ _ _ (by omega) (by omega), hsA_off _ _ _ _ (by omega) (by omega)]
      have q := g3 j hj b1' (by show nI j < a 0; rw [e]; exact nI_lt (by omega) (by omega))
      have q' : a (ix j) = a (15 + 6 * j) ∧ a (ix (6 + j)) = 0 ∧ a (ix (12 + j)) = -1 ∧ a (ix (18 + j)) = 0 := q
      rw [ix_grief hj, ix_mood hj, ix_clock hj, ix_laughed hj] at q'
      exact q'
  · intro j hj b1 b2
    have b1' : hsA a h k g (204 + 74 * n + jx 73) ≤ nI j := b1
    have b2' : nI j < hsA a h k g (ix 73) := b2
    rw [hr 73 (by omega)] at b1'
    rw [h73] at b2'
    show hsA a h k g (ix (24 + j)) = 0 ∧ hsA a h k g (ix (29 + j)) = -1 ∧ hsA a h k g (ix (34 + j)) = 0
    have q := g4 j hj b1' b2'
    have q' : a (ix (24 + j)) = 0 ∧ a (ix (29 + j)) = -1 ∧ a (ix (34 + j)) = 0 := q
    rw [ix_tired hj, ix_place hj, ix_falls hj] at q' ⊢
    rw [hsA_off _ _ _ _ (by omega) (by omega), hsA_off _ _ _ _ (by omega) (by omega), hsA_off _ _ _ _ (by omega) (by omega)]
    exact q'
theorem sim_house {cs : CS} {ms : MS} (R : Rel cs ms) (p1 p2 : Int32) : ∃ (r : Int32) (cs' : CS) (ms' : MS), rt (wC_X11_house p1 p2 cs) r cs' ∧ rt (wM_house p1 p2 ms) r ms' ∧ Rel cs' ms' ∧ (r = -1 ∨ 0 ≤ r) ∧ kT cs ms cs' ms' := by
  have hH := bd_houses R.1.1
  have eH := rd_houses R.1.1
  obtain ⟨h, hh, eh⟩ := p_rng2 (n := 6) (by decide) hH.1 hH.2
  have e0 : k_at 74 (cx_c_now cs) 72 = nI h := by
    rw [p_atL _ (by decide) 72 (by decide), eH, eh]
  by_cases c : (0 ≤ p1 ∧ p1 ≤ 3) ∧ (0 ≤ p2 ∧ p2 ≤ 99) ∧ h < 6
  · obtain ⟨c1, c2, c3⟩ := c
    refine ⟨nI h, cx_set_c_now (cx_set_c_kinds cs (upd (cx_c_kinds cs) h p1)) (hsN (cx_c_now cs) h p2), ms_set_a ms (hsA (ms_a ms) h p1 p2), ?_, ?_, ?_, Or.inr (nI_pos' (by omega)), rfl, (show hsA (ms_a ms) h p1 p2 2 = ms_a ms 2 from hsA_off _ _ _ _ (by omega) (by omega))⟩
    · intro post hp
      unfold wC_X11_house wC_X0_addHouse
      simp only [q_within, p_b0]
      rw [e0]
      simp only [p_all, q_set_grief c3, q_set_mood c3, q_set_clock c3, q_set_laughed c3, gs_now_now, gs_now_kinds, s_nn, nI_1]
      rw [p_put (by decide) _ c3, p_putL _ (by decide) 72 (by decide)]
      exact p_val c1 (p_val c2 (p_yes (nI_lt (b := 6) c3 (by decide)) hp))
    · intro post hp
      unfold wM_house wM_begin
      simp only [m_isIn, p_b0]
      rw [eh]
      simp only [p_all, m_put_kind c3, m_put_told c3, m_get_told c3, m_put_grief c3, m_put_mood c3, m_put_clock c3, m_put_laughed c3, g_aa, s_aa, upd_eq]
      refine p_val c1 (p_val c2 (p_no ?_ ?_))
      · intro q
        have := (nI_eq (b := 6) (by omega) (by decide)).mp q
        omega
      · have e1 : upd (upd (upd (upd (upd (upd (ms_a ms) (14 + 6 * h) p1) (15 + 6 * h) p2) (10 + 6 * h) p2) (11 + 6 * h) 0) (12 + 6 * h) (-1)) (13 + 6 * h) 0 0 = nI h := by
          rw [upd_ne _ _ (by omega), upd_ne _ _ (by omega), upd_ne _ _ (by omega), upd_ne _ _ (by omega), upd_ne _ _ (by omega), upd_ne _ _ (by omega)]
          exact eh
        rw [e1, nI_1]
        exact hp
    · exact Rel_a R rfl rfl rfl (RC_house R.1.1 c3 eh c1.1 c1.2 c2.1 c2.2) (Top_house R.2 c3 eh p1 p2)
  · refine ⟨-1, cs, ms, ?_, ?_, R, Or.inl rfl, rfl, rfl⟩
    · intro post hp
      unfold wC_X11_house wC_X0_addHouse
      simp only [q_within, p_b0]
      rw [e0]
      refine p_inv hp (fun c1 => p_inv hp (fun c2 => p_no ?_ hp))
      intro q
      exact c ⟨c1, c2, (nI_ltI (b := 6) (by omega) (by decide)).mp q⟩
    · intro post hp
      unfold wM_house
      simp only [m_isIn, p_b0]
      refine p_inv hp (fun c1 => p_inv hp (fun c2 => p_yes ?_ hp))
      rw [eh]
      have : h = 6 := by
        by_cases q : h < 6
        · exact absurd ⟨c1, c2, q⟩ c
        · omega
      rw [this]
      rfl
def clN (f : Nat → Int32) (h : Nat) : Nat → Int32 := upd (upd (upd (upd f (24 + h) 0) (29 + h) (-1)) (34 + h) 0) 73 (nI (h + 1))
def clA (a : Nat → Int32) (h : Nat) (k g : Int32) : Nat → Int32 := upd (upd (upd (upd (upd (upd a (49 + 5 * h) k) (50 + 5 * h) g) (46 + 5 * h) 0) (47 + 5 * h) (-1)) (48 + 5 * h) 0) 1 (nI (h + 1))
theorem clA_off (a : Nat → Int32) (h : Nat) (k g : Int32) {j : Nat} (h0 : j ≠ 1) (h1 : j < 46 + 5 * h ∨ 51 + 5 * h ≤ j) : clA a h k g j = a j := by
  unfold clA
  rw [upd_ne _ _ h0, upd_ne _ _ (by omega), upd_ne _ _ (by omega), upd_ne _ _ (by omega), upd_ne _ _ (by omega), upd_ne _ _ (by omega)]
theorem RC_clown {c : CS_c} {a : Nat → Int32} (R : RC c a) {h : Nat} (hh : h < 5) (e : a 1 = nI h) {k g : Int32} (k0 : 0 ≤ k) (k1 : k ≤ 9) (h0 : 0 ≤ g) (h1 : g ≤ 99) : RC (clN c.1 h, c.2.1, upd c.2.2.1 h k, upd c.2.2.2.1 h g, c.2.2.2.2) (clA a h k g) := by
  have i1 := ix_skills hh
  have i2 := ix_ages hh
  refine ⟨?_, ?_, ?_, ?_, ?_⟩
  · have q0 : RN (cc_now c) (upd (upd a (49 + 5 * h) k) (50 + 5 * h) g) := by
      refine RN_off R.1 ?_
      intro i hi
      rw [upd_ne _ _ ?_, upd_ne _ _ ?_]
      · rw [← i1]; intro e; have := ix_inj i (by omega) (80 + h) (by omega) e; omega
      · rw [← i2]; intro e; have := ix_inj i (by omega) (85 + h) (by omega) e; omega
    have q2 := RN_upd q0 (i := 24 + h) (by omega) (v := 0) (by rw [lo_tired hh]; decide) (by rw [hi_tired hh]; decide)
    rw [ix_tired hh] at q2
    have q3 := RN_upd q2 (i := 29 + h) (by omega) (v := -1) (by rw [lo_place hh]; decide) (by rw [hi_place hh]; decide)
    rw [ix_place hh] at q3
    have q4 := RN_upd q3 (i := 34 + h) (by omega) (v := 0) (by rw [lo_falls hh]; decide) (by rw [hi_falls hh]; decide)
    rw [ix_falls hh] at q4
    exact RN_upd q4 (i := 73) (by omega) (v := nI (h + 1)) (nI_pos' (by omega)) (nI_le (b := 5) (by omega) (by decide))
  · have q := RO_ages (RO_skills R.2.1 hh k0 k1) hh h0 h1
    refine RO_ext (RO_off q ?_) (fun _ _ _ => rfl)
    intro i g1 g2
    unfold clA
    have n3 : ix i ≠ 46 + 5 * h := by rw [← ix_tired hh]; intro e; have := ix_inj i g2 (24 + h) (by omega) e; omega
    have n4 : ix i ≠ 47 + 5 * h := by rw [← ix_place hh]; intro e; have := ix_inj i g2 (29 + h) (by omega) e; omega
    have n5 : ix i ≠ 48 + 5 * h := by rw [← ix_falls hh]; intro e; have := ix_inj i g2 (34 + h) (by omega) e; omega
    have n6 : ix i ≠ 1 := by intro e; have := ix_inj i g2 73 (by omega) e; omega
    rw [upd_ne _ _ n6, upd_ne _ _ n5, upd_ne _ _ n4, upd_ne _ _ n3]
  · refine RT_off R.2.2.1 ?_
    intro j hj
    exact clA_off _ _ _ _ (by omega) (by omega)
  · refine RS_off R.2.2.2.1 ?_ ?_ ?_ ?_
    · intro j hj
      exact clA_off _ _ _ _ (by omega) (by omega)
    · intro j hj hl
      exact clA_off _ _ _ _ (by omega) (by omega)
    · rw [clA_off _ _ _ _ (j := 0) (by omega) (by omega)]
      exact Int32.le_refl _
    · rw [e, show clA a h k g 1 = nI (h + 1) from upd_eq _ _ _]
      exact nI_le (by omega) (by omega)
  · rw [clA_off _ _ _ _ (j := 3) (by omega) (by omega), clA_off _ _ _ _ (j := 2) (by omega) (by omega)]
    exact R.2.2.2.2
theorem Top_clown {a : Nat → Int32} (T : Top a) {h : Nat} (hh : h < 5) (e : a 1 = nI h) (k g : Int32) : Top (clA a h k g) := by
  intro n hn en
  rw [clA_off _ _ _ _ (by omega) (by omega)] at en
  obtain ⟨g1, g2, g3, g4⟩ := T n hn en
  have hr : ∀ i, i < 74 → clA a h k g (204 + 74 * n + jx i) = a (204 + 74 * n + jx i) := by
    intro i hi
    exact clA_off _ _ _ _ (by omega) (by omega)
  have g1' : a (204 + 74 * n + jx 72) ≤ a 0 := g1
  have g2' : a (204 + 74 * n + jx 73) ≤ a 1 := g2
  have h73 : clA a h k g (ix 73) = nI (h + 1) := upd_eq _ _ _
  have h72 : clA a h k g (ix 72) = a 0 := clA_off _ _ _ _ (j := 0) (by omega) (by omega)
  refine ⟨?_, ?_, ?_, ?_⟩
  · show clA a h k g _ ≤ clA a h k g _
    rw [hr 72 (by omega), h72]
    exact g1'
  · show clA a h k g _ ≤ clA a h k g _
    rw [hr 73 (by omega), h73]
    rw [e] at g2'
    exact Int32.le_trans g2' (nI_le (by omega) (by omega))
  · intro j hj b1 b2
    have b1' : clA a h k g (204 + 74 * n + jx 72) ≤ nI j := b1
    have b2' : nI j < clA a h k g (ix 72) := b2
    rw [hr 72 (by omega)] at b1'
    rw [h72] at b2'
    show clA a h k g (ix j) = clA a h k g (15 + 6 * j) ∧ clA a h k g (ix (6 + j)) = 0 ∧ clA a h k g (ix (12 + j)) = -1 ∧ clA a h k g (ix (18 + j)) = 0
    have q := g3 j hj b1' b2'
    have q' : a (ix j) = a (15 + 6 * j) ∧ a (ix (6 + j)) = 0 ∧ a (ix (12 + j)) = -1 ∧ a (ix (18 + j)) = 0 := q
    rw [ix_grief hj, ix_mood hj, ix_clock hj, ix_laughed hj] at q' ⊢
    rw [clA_off _ _ _ _ (by omega) (by omega), clA_off _ _ _ _ (by omega) (by omega), clA_off _ _ _ _ (by omega) (by omega), clA_off _ _ _ _ (by omega) (by omega), clA_off _ _ _ _ (by omega) (by omega)]
    exact q'
  · intro j hj b1 b2
    have b1' : clA a h k g (204 + 74 * n + jx 73) ≤ nI j := b1
    have b2' : nI j < clA a h k g (ix 73) := b2
    rw [hr 73 (by omega)] at b1'
    rw [h73] at b2'
    have b3 := (nI_ltI (by omega) (by omega)).mp b2'
    show clA a h k g (ix (24 + j)) = 0 ∧ clA a h k g (ix (29 + j)) = -1 ∧ clA a h k g (ix (34 + j)) = 0
    rw [ix_tired hj, ix_place hj, ix_falls hj]
    by_cases ej : j = h
    · subst ej
      unfold clA
      refine ⟨?_, ?_, ?_⟩
      · rw [upd_ne _ _ (by omega), upd_ne _ _ (by omega), upd_ne _ _ (by omega), upd_eq]
      · rw [upd_ne _ _ (by omega), upd_ne _ _ (by omega), upd_eq]
      · rw [upd_ne _ _ (by omega), upd_eq]
    · rw [clA_off _ _ _ _ (by omega) (by omega), clA_off _ _ _ _ (by omega) (by omega), clA_off _ _ _ _ (by omega) (by omega)]
      have q := g4 j hj b1' (by show nI j < a 1; rw [e]; exact nI_lt (by omega) (by omega))
      have q' : a (ix (24 + j)) = 0 ∧ a (ix (29 + j)) = -1 ∧ a (ix (34 + j)) = 0 := q
      rw [ix_tired hj, ix_place hj, ix_falls hj] at q'
      exact q'
theorem sim_clown {cs : CS} {ms : MS} (R : Rel cs ms) (p1 p2 : Int32) : ∃ (r : Int32) (cs' : CS) (ms' : MS), rt (wC_X11_clown p1 p2 cs) r cs' ∧ rt (wM_clown p1 p2 ms) r ms' ∧ Rel cs' ms' ∧ (r = -1 ∨ 0 ≤ r) ∧ kT cs ms cs' ms' := by
  have hH := bd_clowns R.1.1
  have eH := rd_clowns R.1.1
  obtain ⟨h, hh, eh⟩ := p_rng2 (n := 5) (by decide) hH.1 hH.2
  have e0 : k_at 74 (cx_c_now cs) 73 = nI h := by
    rw [p_atL _ (by decide) 73 (by decide), eH, eh]
  by_cases c : (1 ≤ p1 ∧ p1 ≤ 9) ∧ (0 ≤ p2 ∧ p2 ≤ 99) ∧ h < 5
  · obtain ⟨c1, c2, c3⟩ := c
    refine ⟨nI h, cx_set_c_now (cx_set_c_ages (cx_set_c_skills cs (upd (cx_c_skills cs) h p1)) (upd (cx_c_ages cs) h p2)) (clN (cx_c_now cs) h), ms_set_a ms (clA (ms_a ms) h p1 p2), ?_, ?_, ?_, Or.inr (nI_pos' (by omega)), rfl, (show clA (ms_a ms) h p1 p2 2 = ms_a ms 2 from clA_off _ _ _ _ (by omega) (by omega))⟩
    · intro post hp
      unfold wC_X11_clown wC_X0_addClown
      simp only [q_within, p_b0]
      rw [e0]
      simp only [p_all, q_set_tired c3, q_set_place c3, q_set_falls c3, gs_now_now, gs_now_skills, gs_now_ages, gs_ages_skills, s_nn, nI_1]
      rw [p_put (by decide) _ c3, p_put (by decide) _ c3, p_putL _ (by decide) 73 (by decide)]
      exact p_val c1 (p_val c2 (p_yes (nI_lt (b := 5) c3 (by decide)) hp))
    · intro post hp
      unfold wM_clown wM_arrive
      simp only [m_isIn, p_b0]
      rw [eh]
      simp only [p_all, m_lay_tired c3, m_lay_at c3, m_lay_falls c3, m_lay_skill c3, m_lay_age c3, g_aa, s_aa]
      refine p_val c1 (p_val c2 (p_no ?_ ?_))
      · intro q
        have := (nI_eq (b := 5) (by omega) (by decide)).mp q
        omega
      · have e1 : upd (upd (upd (upd (upd (ms_a ms) (49 + 5 * h) p1) (50 + 5 * h) p2) (46 + 5 * h) 0) (47 + 5 * h) (-1)) (48 + 5 * h) 0 1 = nI h := by
          rw [upd_ne _ _ (by omega), upd_ne _ _ (by omega), upd_ne _ _ (by omega), upd_ne _ _ (by omega), upd_ne _ _ (by omega)]
          exact eh
        rw [e1, nI_1]
        exact hp
    · exact Rel_a R rfl rfl rfl (RC_clown R.1.1 c3 eh (Int32.le_trans (by decide) c1.1) c1.2 c2.1 c2.2) (Top_clown R.2 c3 eh p1 p2)
  · refine ⟨-1, cs, ms, ?_, ?_, R, Or.inl rfl, rfl, rfl⟩
    · intro post hp
      unfold wC_X11_clown wC_X0_addClown
      simp only [q_within, p_b0]
      rw [e0]
      refine p_inv hp (fun c1 => p_inv hp (fun c2 => p_no ?_ hp))
      intro q
      exact c ⟨c1, c2, (nI_ltI (b := 5) (by omega) (by decide)).mp q⟩
    · intro post hp
      unfold wM_clown
      simp only [m_isIn, p_b0]
      refine p_inv hp (fun c1 => p_inv hp (fun c2 => p_yes ?_ hp))
      rw [eh]
      have : h = 5 := by
        by_cases q : h < 5
        · exact absurd ⟨c1, c2, q⟩ c
        · omega
      rw [this]
      rfl
