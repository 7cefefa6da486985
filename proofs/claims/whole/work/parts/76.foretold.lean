/-! PURE LAYER: foretold, heavy -/
/-- what the relation looks at, but for now and the row -/
def eC (S S' : CS) : Prop := S'.1.2 = S.1.2 ∧ S'.2.1 = S.2.1 ∧ S'.2.2.1 = S.2.2.1 ∧ S'.2.2.2.2 = S.2.2.2.2
def eM (S S' : MS) : Prop := ms_image S' = ms_image S ∧ ms_texts S' = ms_texts S ∧ ms_tape S' = ms_tape S ∧ ms_taped S' = ms_taped S ∧ ms_fault S' = ms_fault S ∧ ms_faultPlace S' = ms_faultPlace S
theorem dC_e {S S' : CS} (h : dC S S') : eC S S' := ⟨h.1, h.2.1, h.2.2.1, h.2.2.2.1⟩
theorem dM_e {S S' : MS} (h : dM S S') : eM S S' := ⟨h.1, h.2.1, h.2.2.1, h.2.2.2.1, h.2.2.2.2.1, h.2.2.2.2.2.1⟩
theorem eC_trans {S T U : CS} (h : eC S T) (g : eC T U) : eC S U := ⟨g.1.trans h.1, g.2.1.trans h.2.1, g.2.2.1.trans h.2.2.1, g.2.2.2.trans h.2.2.2⟩
theorem eM_trans {S T U : MS} (h : eM S T) (g : eM T U) : eM S U := ⟨g.1.trans h.1, g.2.1.trans h.2.1, g.2.2.1.trans h.2.2.1, g.2.2.2.1.trans h.2.2.2.1, g.2.2.2.2.1.trans h.2.2.2.2.1, g.2.2.2.2.2.trans h.2.2.2.2.2⟩
theorem Rel0_e {cs cs' : CS} {ms ms' : MS} (R : Rel0 cs ms) (h : eC cs cs') (g : eM ms ms') (N : RN (cx_c_now cs') (ms_a ms)) (ea : ms_a ms' = ms_a ms) : Rel0 cs' ms' := by
  unfold Rel0 RelV at R ⊢
  obtain ⟨r1, r2, r3, r4, r5⟩ := R
  have e : cs'.1 = (cx_c_now cs', cs.1.2) := Prod.ext rfl h.1
  rw [h.2.1, h.2.2.1, h.2.2.2, g.1, g.2.1, g.2.2.1, g.2.2.2.1, g.2.2.2.2.1, g.2.2.2.2.2, e, ea]
  exact ⟨RC_now r1 N (fr_refl _), r2, r3, r4, r5⟩
theorem Rel_e {cs cs' : CS} {ms ms' : MS} (R : Rel cs ms) (h : eC cs cs') (g : eM ms ms') (N : RN (cx_c_now cs') (ms_a ms)) (ea : ms_a ms' = ms_a ms) : Rel cs' ms' := ⟨Rel0_e R.1 h g N ea, by rw [ea]; exact R.2⟩
theorem RN_same {f g a : Nat → Int32} (N : RN f a) (h : ∀ j, j < 74 → g j = f j) : RN g a := by
  intro i hi
  rw [h i hi]
  exact N i hi
theorem d_asItIs {S S' : CS} (h : dC S S') : cx_g_asItIs S' = cx_g_asItIs S := congrArg (fun z => z.1) h.2.2.2.2
theorem d_aside {S S' : MS} (h : dM S S') : ms_aside S' = ms_aside S := congrArg (fun z => z.1) h.2.2.2.2.2.2
theorem a_t1 (S : MS) (f : Nat → Int32) : ms_a (ms_set_aside S f) = ms_a S := by
  simp only [ms_a, ms_set_aside]
theorem a_t2 (S : MS) (f : Nat → Int32) : ms_aside (ms_set_aside S f) = f := by
  simp only [ms_aside, ms_set_aside]
theorem a_t3 (S : MS) (f g : Nat → Int32) : ms_set_aside (ms_set_aside S f) g = ms_set_aside S g := by
  simp only [ms_set_aside]
theorem a_t4 (S : MS) (f : Nat → Int32) : ms_aside (ms_set_a S f) = ms_aside S := by
  simp only [ms_aside, ms_set_a]
theorem a_eM (S : MS) (f : Nat → Int32) : eM S (ms_set_aside S f) := by
  refine ⟨?_, ?_, ?_, ?_, ?_, ?_⟩ <;> simp only [ms_image, ms_texts, ms_tape, ms_taped, ms_fault, ms_faultPlace, ms_set_aside]
theorem b_eC (S : CS) (f : Nat → Int32) : eC S (cx_set_g_asItIs S f) := by
  refine ⟨?_, ?_, ?_, ?_⟩ <;> simp only [cx_set_g_asItIs]
theorem b_t1 (S : CS) (f : Nat → Int32) : cx_c_now (cx_set_g_asItIs S f) = cx_c_now S := by
  simp only [cx_c_now, cx_set_g_asItIs]
theorem b_t2 (S : CS) (f : Nat → Int32) : cx_g_asItIs (cx_set_g_asItIs S f) = f := by
  simp only [cx_g_asItIs, cx_set_g_asItIs]
theorem as_id (S : MS) : ms_set_aside S (ms_aside S) = S := rfl
theorem m_setAside (S : MS) : ∃ f : Nat → Int32, (∀ k, 7 ≤ k → k < 71 → f k = ms_a S k) ∧ rv (wM_setAside S) (ms_set_aside S f) := by
  refine ⟨upf (fun i g => upd g i (ms_a S i)) 64 7 (ms_aside S), ?_, ?_⟩
  · exact upf_I (fun i g => upd g i (ms_a S i)) (fun i g => ∀ k, 7 ≤ k → k < i → g k = ms_a S k) 71 (by
      intro i g hi I k h1 h2
      show upd g i (ms_a S i) k = ms_a S k
      by_cases e : k = i
      · rw [e, upd_eq]
      · rw [upd_ne _ _ e]
        exact I k h1 (by omega)) 64 7 _ (by omega) (fun k h1 h2 => by omega)
  · intro post hp
    have q : wM_setAside_3 post 65 (nI 7) (ms_set_aside S (ms_aside S)) := by
      refine up_loopI (fun n g i => wM_setAside_3 post n i (ms_set_aside S g)) (fun i g => upd g i (ms_a S i)) (fun g => post (ms_set_aside S g)) (fun _ _ => True) 71 (fun _ _ _ _ => trivial) ?_ ?_ 64 7 (ms_aside S) (by omega) trivial hp
      · intro n g _ q
        show wM_setAside_3 post (n + 1) (nI 71) (ms_set_aside S g)
        rw [wM_setAside_3]
        exact p_yes (by decide) q
      · intro n i g hi _ q
        show wM_setAside_3 post (n + 1) (nI i) (ms_set_aside S g)
        rw [wM_setAside_3]
        simp only [p_all, a_t1, a_t2, a_t3]
        rw [nI_clamp (by omega), nI_1]
        exact p_no (nI_ge (b := 71) hi (by decide)) ⟨vp_in_nI (by omega) (by decide), vp_in_nI hi (by decide), q⟩
    rw [as_id] at q
    exact ⟨65, q⟩
theorem m_putBack (S : MS) : ∃ a' : Nat → Int32, (∀ k, 7 ≤ k → k < 71 → a' k = ms_aside S k) ∧ (∀ k, k < 7 ∨ 71 ≤ k → a' k = ms_a S k) ∧ rv (wM_putBack S) (ms_set_a S a') := by
  have I := upf_I (fun i g => upd g i (ms_aside S i)) (fun i g => 7 ≤ i ∧ (∀ k, 7 ≤ k → k < i → g k = ms_aside S k) ∧ (∀ k, k < 7 ∨ i ≤ k → g k = ms_a S k)) 71 (by
      intro i g hi I
      have h7 := I.1
      refine ⟨by omega, ?_, ?_⟩
      · intro k h1 h2
        show upd g i (ms_aside S i) k = ms_aside S k
        by_cases e : k = i
        · rw [e, upd_eq]
        · rw [upd_ne _ _ e]
          exact I.2.1 k h1 (by omega)
      · intro k hk
        show upd g i (ms_aside S i) k = ms_a S k
        rw [upd_ne _ _ (by omega)]
        exact I.2.2 k (by omega)) 64 7 (ms_a S) (by omega) ⟨by omega, fun k h1 h2 => by omega, fun _ _ => rfl⟩
  refine ⟨upf (fun i g => upd g i (ms_aside S i)) 64 7 (ms_a S), I.2.1, I.2.2, ?_⟩
  intro post hp
  have q : wM_putBack_3 post 65 (nI 7) (ms_set_a S (ms_a S)) := by
    refine up_loopI (fun n g i => wM_putBack_3 post n i (ms_set_a S g)) (fun i g => upd g i (ms_aside S i)) (fun g => post (ms_set_a S g)) (fun _ _ => True) 71 (fun _ _ _ _ => trivial) ?_ ?_ 64 7 (ms_a S) (by omega) trivial hp
    · intro n g _ q
      show wM_putBack_3 post (n + 1) (nI 71) (ms_set_a S g)
      rw [wM_putBack_3]
      exact p_yes (by decide) q
    · intro n i g hi _ q
      show wM_putBack_3 post (n + 1) (nI i) (ms_set_a S g)
      rw [wM_putBack_3]
      simp only [p_all, g_aa, s_aa, a_t4]
      rw [nI_clamp (by omega), nI_1]
      exact p_no (nI_ge (b := 71) hi (by decide)) ⟨vp_in_nI hi (by decide), vp_in_nI (by omega) (by decide), q⟩
  rw [s_id] at q
  exact ⟨65, q⟩
/-- what is tried out between is put back -/
theorem fore {cs : CS} {ms : MS} (R : Rel cs ms) : ∃ (cs1 : CS) (ms1 : MS), rv (wC_X2_beginForetelling cs) cs1 ∧ rv (wM_setAside ms) ms1 ∧ Rel0 cs1 ms1 ∧ ms_a ms1 = ms_a ms ∧ ∀ (cs2 : CS) (ms2 : MS), Df cs1 ms1 cs2 ms2 → frP (ms_a ms1) (ms_a ms2) → ∃ (cs3 : CS) (ms3 : MS), Rel cs3 ms3 ∧ rv (wC_X2_endForetelling cs2) cs3 ∧ rv (wM_putBack ms2) ms3 := by
  obtain ⟨f, hf, hS⟩ := m_setAside ms
  refine ⟨cx_set_g_asItIs cs (va_cpy (cx_c_now cs) (cx_g_asItIs cs) 0 0 74), ms_set_aside ms f, ?_, hS, ?_, a_t1 _ _, ?_⟩
  · intro post hp
    unfold wC_X2_beginForetelling
    rw [p_all, cpW _ (by decide)]
    exact hp
  · exact Rel0_e R.1 (b_eC _ _) (a_eM _ _) (by rw [b_t1]; exact R.1.1.1) (a_t1 _ _)
  · intro cs2 ms2 D F
    obtain ⟨a', p1, p2, hP⟩ := m_putBack ms2
    have ea : a' = ms_a ms := by
      funext k
      by_cases c : 7 ≤ k ∧ k < 71
      · rw [p1 k c.1 c.2, d_aside D.2.1, a_t2]
        exact hf k c.1 c.2
      · rw [p2 k (by omega), F k (by omega), a_t1]
    refine ⟨cx_set_c_now cs2 (va_cpy (cx_g_asItIs cs2) (cx_c_now cs2) 0 0 74), ms_set_a ms2 a', ?_, ?_, hP⟩
    · refine Rel_e R (eC_trans (b_eC _ _) (eC_trans (dC_e D.1) (dC_e (dC_now _ _)))) (eM_trans (a_eM _ _) (eM_trans (dM_e D.2.1) (dM_e (dM_a _ _)))) ?_ (by rw [g_aa]; exact ea)
      rw [gs_now_now]
      refine RN_same R.1.1.1 ?_
      intro j hj
      rw [cpW_at _ _ hj, d_asItIs D.1, b_t2, cpW_at _ _ hj]
      rfl
    · intro post hp
      unfold wC_X2_endForetelling
      rw [p_all, cpW _ (by decide)]
      exact hp
theorem ft_stay {n : Nat} (hn : n ≤ 60) (x2 : Int32) (ms : MS) (h7 : 9999 ≤ ms_a ms 7) (post : Int32 → MS → Prop) (hp : wM_get x2 0 ms (fun r_2 S_3 => wM_putBack S_3 (fun S_5 => post r_2 S_5))) : ∀ d i, i + d = n → wM_foretold_26 post (d + 1) (nI n) x2 (nI i) ms := by
  intro d
  induction d with
  | zero =>
    intro i e
    have ei : i = n := by omega
    subst ei
    rw [wM_foretold_26]
    exact p_yes (Int32.le_refl _) hp
  | succ d ih =>
    intro i e
    rw [wM_foretold_26, nI_1]
    exact p_no (nI_ge (by omega) (by omega)) (p_yes h7 (ih (i + 1) (by omega)))
theorem ft_loop {n : Nat} (hn : n ≤ 60) (x2 : Int32) : ∀ (d i : Nat) (cs : CS) (ms : MS), i + d = n → Rel0 cs ms → ∃ (cs' : CS) (ms' : MS), Df cs ms cs' ms' ∧ frP (ms_a ms) (ms_a ms') ∧ (∀ post : Int32 → CS → Prop, wC_X11_foretold_60 post x2 cs' → wC_X11_foretold_32 post (d + 1) (nI n) x2 (nI i) cs) ∧ (∀ post : Int32 → MS → Prop, wM_get x2 0 ms' (fun r_2 S_3 => wM_putBack S_3 (fun S_5 => post r_2 S_5)) → wM_foretold_26 post (d + 1) (nI n) x2 (nI i) ms) := by
  intro d
  induction d with
  | zero =>
    intro i cs ms e R
    have ei : i = n := by omega
    subst ei
    refine ⟨cs, ms, Df_refl R, fun _ _ => rfl, ?_, ?_⟩
    · intro post hp
      rw [wC_X11_foretold_32]
      exact p_yes (Int32.le_refl _) hp
    · intro post hp
      rw [wM_foretold_26]
      exact p_yes (Int32.le_refl _) hp
  | succ d ih =>
    intro i cs ms e R
    by_cases h7 : ms_a ms 7 < 9999
    · obtain ⟨cs1, ms1, D, F, _, hC, hM⟩ := sim_pass R h7
      obtain ⟨cs2, ms2, D2, F2, hC2, hM2⟩ := ih (i + 1) cs1 ms1 (by omega) (Df_Rel R D)
      refine ⟨cs2, ms2, Df_trans D D2, frP_trans F F2, ?_, ?_⟩
      · intro post hp
        rw [wC_X11_foretold_32, nI_1]
        refine p_no (nI_ge (by omega) (by omega)) ?_
        unfold wC_X2_canPass
        rw [q_today, rd_day R.1]
        exact p_no (Int32.not_le.mpr h7) (p_no (by decide) (hC _ (hC2 post hp)))
      · intro post hp
        rw [wM_foretold_26, nI_1]
        exact p_no (nI_ge (by omega) (by omega)) (p_no (Int32.not_le.mpr h7) (hM _ (hM2 post hp)))
    · refine ⟨cs, ms, Df_refl R, fun _ _ => rfl, ?_, ?_⟩
      · intro post hp
        rw [wC_X11_foretold_32]
        refine p_no (nI_ge (by omega) (by omega)) ?_
        unfold wC_X2_canPass
        rw [q_today, rd_day R.1]
        exact p_yes (Int32.not_lt.mp h7) (p_yes rfl hp)
      · intro post hp
        exact ft_stay hn x2 ms (Int32.not_lt.mp h7) post hp (d + 1) i e
theorem sim_foretold {cs : CS} {ms : MS} (R : Rel cs ms) (p1 p2 : Int32) : ∃ (r : Int32) (cs' : CS) (ms' : MS), rt (wC_X11_foretold p1 p2 cs) r cs' ∧ rt (wM_foretold p1 p2 ms) r ms' ∧ Rel cs' ms' := by
  have hH := bd_houses R.1.1
  have eH := rd_houses R.1.1
  by_cases c : (1 ≤ p1 ∧ p1 ≤ 60) ∧ (0 ≤ p2 ∧ p2 < ms_a ms 0)
  · obtain ⟨c1, c2⟩ := c
    obtain ⟨n, hn, rfl⟩ := p_rng2 (n := 60) (by decide) (Int32.le_trans (by decide) c1.1) c1.2
    obtain ⟨h, hh, rfl⟩ := p_rng (n := 6) (by decide) c2.1 (Int32.lt_of_lt_of_le c2.2 hH.2)
    obtain ⟨cs1, ms1, B1, B2, R1, ea, hend⟩ := fore R
    obtain ⟨cs2, ms2, D, F, hC, hM⟩ := ft_loop hn (nI h) n 0 cs1 ms1 (by omega) R1
    have R2 := Df_Rel R1 D
    obtain ⟨cs3, ms3, R3, E1, E2⟩ := hend cs2 ms2 D F
    refine ⟨ms_a ms2 (10 + 6 * h), cs3, ms3, ?_, ?_, R3⟩
    · intro post hp
      unfold wC_X11_foretold
      simp only [q_within, q_hasHouse, p_b0]
      rw [eH]
      refine p_val c1 (p_val c2 (B1 _ ⟨n + 1, hC post ?_⟩))
      unfold wC_X11_foretold_60
      rw [q_see_grief hh, rd_grief R2.1 hh]
      exact E1 _ hp
    · intro post hp
      unfold wM_foretold
      rw [m_isIn, p_b0]
      refine p_val c1 ?_
      rw [m_isHouse _ hH, p_b0]
      refine p_val c2 (B2 _ ⟨n + 1, hM post ?_⟩)
      rw [m_get_grief hh]
      exact E2 _ hp
  · refine ⟨-1, cs, ms, ?_, ?_, R⟩
    · intro post hp
      unfold wC_X11_foretold
      simp only [q_within, q_hasHouse, p_b0]
      rw [eH]
      exact p_inv hp (fun c1 => p_inv hp (fun c2 => absurd ⟨c1, c2⟩ c))
    · intro post hp
      unfold wM_foretold
      rw [m_isIn, p_b0]
      refine p_inv hp (fun c1 => ?_)
      rw [m_isHouse _ hH, p_b0]
      exact p_inv hp (fun c2 => absurd ⟨c1, c2⟩ c)
theorem hv_loop (x1 : Int32) : ∀ (d i : Nat) (cs : CS) (ms : MS), i + d = 60 → Rel0 cs ms → ∃ (j : Nat) (cs' : CS) (ms' : MS), Df cs ms cs' ms' ∧ frP (ms_a ms) (ms_a ms') ∧ (∀ post : Int32 → CS → Prop, wC_X11_heavy_62 post x1 (nI j) cs' → wC_X11_heavy_22 post (d + 1) x1 (nI i) cs) ∧ (∀ post : Int32 → MS → Prop, wM_heavy_56 post x1 (nI j) ms' → wM_heavy_19 post (d + 1) x1 (nI i) ms) := by
  intro d
  induction d with
  | zero =>
    intro i cs ms e R
    have ei : i = 60 := by omega
    subst ei
    refine ⟨60, cs, ms, Df_refl R, fun _ _ => rfl, ?_, ?_⟩
    · intro post hp
      rw [wC_X11_heavy_22]
      exact p_yes (by decide) hp
    · intro post hp
      rw [wM_heavy_19]
      exact p_yes (by decide) hp
  | succ d ih =>
    intro i cs ms e R
    have hH := bd_houses R.1
    have n60 : ¬ (60 : Int32) ≤ nI i := nI_ge (b := 60) (by omega) (by decide)
    by_cases h7 : ms_a ms 7 < 9999
    · by_cases hg : x1 ≤ agV (ms_a ms)
      · refine ⟨i, cs, ms, Df_refl R, fun _ _ => rfl, ?_, ?_⟩
        · intro post hp
          rw [wC_X11_heavy_22]
          refine p_no n60 ?_
          unfold wC_X2_canPass
          rw [q_today, rd_day R.1]
          exact p_no (Int32.not_le.mpr h7) (p_no (by decide) (q_allGrief R.1 _ (p_yes hg hp)))
        · intro post hp
          rw [wM_heavy_19]
          exact p_no n60 (p_no (Int32.not_le.mpr h7) (m_griefOfAll hH _ (p_yes hg hp)))
      · obtain ⟨cs1, ms1, D, F, _, hC, hM⟩ := sim_pass R h7
        obtain ⟨j, cs2, ms2, D2, F2, hC2, hM2⟩ := ih (i + 1) cs1 ms1 (by omega) (Df_Rel R D)
        refine ⟨j, cs2, ms2, Df_trans D D2, frP_trans F F2, ?_, ?_⟩
        · intro post hp
          rw [wC_X11_heavy_22, nI_1]
          refine p_no n60 ?_
          unfold wC_X2_canPass
          rw [q_today, rd_day R.1]
          exact p_no (Int32.not_le.mpr h7) (p_no (by decide) (q_allGrief R.1 _ (p_no hg (hC _ (hC2 post hp)))))
        · intro post hp
          rw [wM_heavy_19, nI_1]
          exact p_no n60 (p_no (Int32.not_le.mpr h7) (m_griefOfAll hH _ (p_no hg (hM _ (hM2 post hp)))))
    · refine ⟨i, cs, ms, Df_refl R, fun _ _ => rfl, ?_, ?_⟩
      · intro post hp
        rw [wC_X11_heavy_22]
        refine p_no n60 ?_
        unfold wC_X2_canPass
        rw [q_today, rd_day R.1]
        exact p_yes (Int32.not_lt.mp h7) (p_yes rfl hp)
      · intro post hp
        rw [wM_heavy_19]
        exact p_no n60 (p_yes (Int32.not_lt.mp h7) hp)
theorem sim_heavy {cs : CS} {ms : MS} (R : Rel cs ms) (p1 : Int32) : ∃ (r : Int32) (cs' : CS) (ms' : MS), rt (wC_X11_heavy p1 cs) r cs' ∧ rt (wM_heavy p1 ms) r ms' ∧ Rel cs' ms' := by
  by_cases c : 0 ≤ p1 ∧ p1 ≤ 600
  · obtain ⟨cs1, ms1, B1, B2, R1, ea, hend⟩ := fore R
    obtain ⟨j, cs2, ms2, D, F, hC, hM⟩ := hv_loop p1 60 0 cs1 ms1 (by omega) R1
    have R2 := Df_Rel R1 D
    have hH := bd_houses R2.1
    obtain ⟨cs3, ms3, R3, E1, E2⟩ := hend cs2 ms2 D F
    by_cases hg : agV (ms_a ms2) < p1
    · refine ⟨-1, cs3, ms3, ?_, ?_, R3⟩
      · intro post hp
        unfold wC_X11_heavy
        rw [q_within, p_b0]
        exact p_val c (B1 _ ⟨61, hC post (q_allGrief R2.1 _ (p_yes hg (E1 _ hp)))⟩)
      · intro post hp
        unfold wM_heavy
        rw [m_isIn, p_b0]
        exact p_val c (B2 _ ⟨61, hM post (m_griefOfAll hH _ (p_yes hg (E2 _ hp)))⟩)
    · refine ⟨nI j, cs3, ms3, ?_, ?_, R3⟩
      · intro post hp
        unfold wC_X11_heavy
        rw [q_within, p_b0]
        exact p_val c (B1 _ ⟨61, hC post (q_allGrief R2.1 _ (p_no hg (E1 _ hp)))⟩)
      · intro post hp
        unfold wM_heavy
        rw [m_isIn, p_b0]
        exact p_val c (B2 _ ⟨61, hM post (m_griefOfAll hH _ (p_no hg (E2 _ hp)))⟩)
  · refine ⟨-1, cs, ms, ?_, ?_, R⟩
    · intro post hp
      unfold wC_X11_heavy
      rw [q_within, p_b0]
      exact p_inv hp (fun c1 => absurd c1 c)
    · intro post hp
      unfold wM_heavy
      rw [m_isIn, p_b0]
      exact p_inv hp (fun c1 => absurd c1 c)
