/-! PURE LAYER: next -/
def cnP (a : Nat → Int32) : Nat → Nat → Nat
  | 0, _ => 0
  | d + 1, i => (if erV a (nI i) = lsV a then 1 else 0) + cnP a d (i + 1)
theorem cnP_le (a : Nat → Int32) : ∀ d i, cnP a d i ≤ d := by
  intro d
  induction d with
  | zero =>
    intro i
    exact Nat.le_refl 0
  | succ d ih =>
    intro i
    have := ih (i + 1)
    unfold cnP
    split <;> omega
def cnS (a : Nat → Int32) (i : Nat) (x : Int32) : Int32 := if erV a (nI i) = lsV a then x + 1 else x + 0
theorem cn_up (a : Nat → Int32) : ∀ d i k, upf (cnS a) d i (nI k) = nI (k + cnP a d i) := by
  intro d
  induction d with
  | zero =>
    intro i k
    rfl
  | succ d ih =>
    intro i k
    show upf (cnS a) d (i + 1) (cnS a i (nI k)) = nI (k + cnP a (d + 1) i)
    unfold cnS cnP
    by_cases h : erV a (nI i) = lsV a
    · rw [if_pos h, if_pos h, nI_1]
      have := ih (i + 1) (k + 1)
      unfold cnS at this
      rw [this, Nat.add_assoc]
    · rw [if_neg h, if_neg h, Int32.add_zero, Nat.zero_add]
      exact ih (i + 1) k
theorem nI_sub {a b : Nat} (h : b ≤ a) : nI a - nI b = nI (a - b) := by
  have e : nI a = nI (a - b) + nI b := by rw [nI_add, Nat.sub_add_cancel h]
  rw [e, Int32.add_sub_cancel]
def offN (w c : Nat) : Nat := if c ≤ 2 * w then 2 * w - c else c - 2 * w
theorem off_C {w c : Nat} (hw : w ≤ 101) (hc : c ≤ 101) : (if 0 ≤ 2 * nI w - nI c then 2 * nI w - nI c else 0 - (2 * nI w - nI c)) = nI (offN w c) := by
  rw [nI_lm 2 w]
  unfold offN
  by_cases h : c ≤ 2 * w
  · rw [nI_sub h, if_pos (nI_pos' (by omega)), if_pos h]
  · rw [if_neg h]
    have e : nI (2 * w) - nI c = -(nI (c - 2 * w)) := by
      rw [← nI_sub (show 2 * w ≤ c by omega)]
      generalize nI (2 * w) = x
      generalize nI c = y
      grind
    have l : 1 ≤ nI (c - 2 * w) := nI_le (a := 1) (by omega) (by omega)
    have u : nI (c - 2 * w) ≤ 101 := nI_le (b := 101) (by omega) (by decide)
    rw [e]
    generalize nI (c - 2 * w) = x at l u
    have n : ¬ 0 ≤ -x := by grind
    rw [if_neg n]
    grind
theorem nx_loop {cs : CS} {ms : MS} (R : RC cs.1 (ms_a ms)) {hgh c : Nat} (hh : hgh ≤ 99) (hc : c ≤ 101) : ∀ d i (x4 x5 y5 : Int32) (wd : Nat), i + d = hgh + 1 → wd = cnP (ms_a ms) (101 - i) i → wd ≤ c → ((x4 = -1 ∧ y5 = 1000000000) ∨ (¬ x4 = -1 ∧ x5 = y5)) → ∃ r : Int32, (∀ post : Int32 → CS → Prop, post r cs → wC_X11_next_71 post (d + 1) (nI hgh) (lsV (ms_a ms)) (nI c) x4 x5 (nI wd) (nI i) cs) ∧ (∀ post : Int32 → MS → Prop, post r ms → wM_next_67 post (d + 1) (nI hgh) (lsV (ms_a ms)) (nI c) x4 y5 (nI wd) (nI i) ms) := by
  have hC := bd_trialCount R
  intro d
  induction d with
  | zero =>
    intro i x4 x5 y5 wd e _ _ _
    refine ⟨x4, ?_, ?_⟩
    · intro post hp
      rw [wC_X11_next_71]
      exact p_yes (nI_lt (by omega) (by omega)) hp
    · intro post hp
      rw [wM_next_67]
      exact p_yes (nI_lt (by omega) (by omega)) hp
  | succ d ih =>
    intro i x4 x5 y5 wd e hwd hwc J
    obtain ⟨w', hw', t1, ht1, et1⟩ : ∃ (w' : Nat), w' = cnP (ms_a ms) (101 - (i + 1)) (i + 1) ∧ ∃ t1 : Int32, ((erV (ms_a ms) (nI i) = lsV (ms_a ms) → t1 = 1) ∧ (¬ erV (ms_a ms) (nI i) = lsV (ms_a ms) → t1 = 0)) ∧ nI wd - t1 = nI w' ∧ w' ≤ wd := by
      have e2 : cnP (ms_a ms) (101 - i) i = (if erV (ms_a ms) (nI i) = lsV (ms_a ms) then 1 else 0) + cnP (ms_a ms) (101 - (i + 1)) (i + 1) := by
        rw [show 101 - i = (101 - (i + 1)) + 1 by omega]
        rfl
      rw [e2] at hwd
      by_cases h : erV (ms_a ms) (nI i) = lsV (ms_a ms)
      · rw [if_pos h] at hwd
        refine ⟨_, rfl, 1, ⟨fun _ => rfl, fun n => absurd h n⟩, ?_, by omega⟩
        rw [hwd, Nat.add_comm]
        exact nI_pred _
      · rw [if_neg h, Nat.zero_add] at hwd
        refine ⟨_, rfl, 0, ⟨fun n => absurd n h, fun _ => rfl⟩, ?_, by omega⟩
        rw [hwd, Int32.sub_zero]
    have hw101 : w' ≤ 101 := by omega
    have ne : ¬ nI i = -1 := by
      intro e
      have := nI_pos' (n := i) (by omega)
      rw [e] at this
      exact absurd this (by decide)
    have hle : ¬ nI hgh < nI i := nI_nlt (by omega) (by omega)
    -- what both do behind the test
    have key : ∃ r : Int32, (∀ post : Int32 → CS → Prop, post r cs → wC_X11_next_97 post (wC_X11_next_71 post (d + 1)) (nI hgh) (lsV (ms_a ms)) (nI c) x4 x5 (nI i) (nI wd) t1 cs) ∧ (∀ post : Int32 → MS → Prop, post r ms → wM_next_90 post (wM_next_67 post (d + 1)) (nI hgh) (lsV (ms_a ms)) (nI c) x4 y5 (nI i) (nI wd) t1 ms) := by
      have keep := ih (i + 1) x4 x5 y5 w' (by omega) hw' (by omega) J
      have new := ih (i + 1) (nI i) (nI (offN w' c)) (nI (offN w' c)) w' (by omega) hw' (by omega) (Or.inr ⟨ne, rfl⟩)
      have hM : ∀ post : Int32 → MS → Prop, wM_next_116 post (wM_next_67 post (d + 1)) (nI hgh) (lsV (ms_a ms)) (nI c) x4 y5 (nI w') (nI i) (nI (offN w' c)) ms → wM_next_90 post (wM_next_67 post (d + 1)) (nI hgh) (lsV (ms_a ms)) (nI c) x4 y5 (nI i) (nI wd) t1 ms := by
        intro post hp
        unfold wM_next_90
        rw [et1.1, nI_lm 2 w']
        refine p_two (fun h => ?_) (fun h => ?_)
        · have h' := (nI_leI (by omega) (by omega)).mp h
          rw [nI_sub h']
          have : offN w' c = c - 2 * w' := by
            unfold offN
            split <;> omega
          rw [this] at hp
          exact hp
        · have h' : ¬ 2 * w' ≤ c := fun q => h (nI_le q (by omega))
          rw [nI_sub (show c ≤ 2 * w' by omega)]
          have : offN w' c = 2 * w' - c := by
            unfold offN
            split <;> omega
          rw [this] at hp
          exact hp
      by_cases a0 : w' = 0
      · obtain ⟨r, k1, k2⟩ := keep
        refine ⟨r, fun post hp => ?_, fun post hp => hM post ?_⟩
        · unfold wC_X11_next_97
          rw [et1.1, nI_1]
          refine p_yes ?_ (k1 post hp)
          rw [a0]
          decide
        · unfold wM_next_116
          rw [nI_1]
          refine p_yes ?_ (k2 post hp)
          rw [a0]
          rfl
      · have n0 : ¬ nI w' ≤ 0 := nI_nle (by omega) (by omega)
        have n0' : ¬ nI w' = 0 := nI_ne0 (by omega) (by omega)
        by_cases a1 : w' = c
        · obtain ⟨r, k1, k2⟩ := keep
          refine ⟨r, fun post hp => ?_, fun post hp => hM post ?_⟩
          · unfold wC_X11_next_97
            rw [et1.1, nI_1]
            refine p_no n0 (p_yes ?_ (k1 post hp))
            rw [a1]
            exact Int32.le_refl _
          · unfold wM_next_116
            rw [nI_1]
            refine p_no n0' (p_yes ?_ (k2 post hp))
            rw [a1]
        · have n1 : ¬ nI c ≤ nI w' := nI_ge (by omega) (by omega)
          have n1' : ¬ nI w' = nI c := fun q => a1 ((nI_eq (by omega) (by omega)).mp q)
          have ho : offN w' c ≤ 202 := by
            unfold offN
            split <;> omega
          by_cases a2 : x4 = -1 ∨ nI (offN w' c) < y5
          · have lt : nI (offN w' c) < y5 := by
              rcases a2 with a2 | a2
              · rcases J with J | J
                · rw [J.2]
                  exact nI_lt (b := 1000000000) (by omega) (by decide)
                · exact absurd a2 J.1
              · exact a2
            obtain ⟨r, k1, k2⟩ := new
            refine ⟨r, fun post hp => ?_, fun post hp => hM post ?_⟩
            · unfold wC_X11_next_97
              rw [et1.1, off_C hw101 hc, nI_1]
              refine p_no n0 (p_no n1 (p_two (fun _ => k1 post hp) (fun q => p_no ?_ (k1 post hp))))
              rcases J with J | J
              · exact absurd J.1 q
              · rw [J.2]
                exact Int32.not_le.mpr lt
            · unfold wM_next_116
              rw [nI_1]
              exact p_no n0' (p_no n1' (p_yes lt (k2 post hp)))
          · have a3 : ¬ x4 = -1 := fun q => a2 (Or.inl q)
            have a4 : ¬ nI (offN w' c) < y5 := fun q => a2 (Or.inr q)
            obtain ⟨r, k1, k2⟩ := keep
            refine ⟨r, fun post hp => ?_, fun post hp => hM post ?_⟩
            · unfold wC_X11_next_97
              rw [et1.1, off_C hw101 hc, nI_1]
              refine p_no n0 (p_no n1 (p_no a3 (p_yes ?_ (k1 post hp))))
              rcases J with J | J
              · exact absurd J.1 a3
              · rw [J.2]
                exact Int32.not_lt.mp a4
            · unfold wM_next_116
              rw [nI_1]
              exact p_no n0' (p_no n1' (p_no a4 (k2 post hp)))
    obtain ⟨r, k1, k2⟩ := key
    refine ⟨r, fun post hp => ?_, fun post hp => ?_⟩
    · rw [wC_X11_next_71]
      refine p_no hle (q_errorsAt R _ _ (p_two (fun h => ?_) (fun h => ?_)))
      · have := k1 post hp
        rw [ht1.1 h] at this
        exact this
      · have := k1 post hp
        rw [ht1.2 h] at this
        exact this
    · rw [wM_next_67]
      refine p_no hle (m_errorsBy hC _ _ (p_two (fun h => ?_) (fun h => ?_)))
      · have := k2 post hp
        rw [ht1.1 h] at this
        exact this
      · have := k2 post hp
        rw [ht1.2 h] at this
        exact this
theorem sim_next {cs : CS} {ms : MS} (R : Rel cs ms) (p1 : Int32) : ∃ (r : Int32) (cs' : CS) (ms' : MS), rt (wC_X11_next p1 cs) r cs' ∧ rt (wM_next p1 ms) r ms' ∧ Rel cs' ms' := by
  have hC := bd_trialCount R.1.1
  by_cases c : 0 ≤ p1 ∧ p1 ≤ 99
  · obtain ⟨hgh, hh, rfl⟩ := p_rng2 (n := 99) (by decide) c.1 c.2
    have hc := cnP_le (ms_a ms) 101 0
    obtain ⟨r, k1, k2⟩ := nx_loop R.1.1 hh hc (hgh + 1) 0 (-1) 0 1000000000 (cnP (ms_a ms) 101 0) (by omega) rfl (Nat.le_refl _) (Or.inl ⟨rfl, rfl⟩)
    have e := cn_up (ms_a ms) 101 0 0
    rw [Nat.zero_add] at e
    have e' : upf (cnS (ms_a ms)) 101 0 0 = nI (cnP (ms_a ms) 101 0) := e
    refine ⟨r, cs, ms, ?_, ?_, R⟩
    · intro post hp
      unfold wC_X11_next
      rw [q_within, p_b0]
      refine p_val c (q_leastErrors R.1.1 _ ⟨102, up_loop (fun n x i => wC_X11_next_25 post n (nI hgh) (lsV (ms_a ms)) x i cs) (cnS (ms_a ms)) (fun x => ∃ k : Nat, wC_X11_next_71 post k (nI hgh) (lsV (ms_a ms)) x (-1) 0 x 0 cs) 101 ?_ ?_ 0 ?_⟩)
      · intro n x q
        show wC_X11_next_25 post (n + 1) (nI hgh) (lsV (ms_a ms)) x (nI 101) cs
        rw [wC_X11_next_25]
        exact p_yes (by decide) q
      · intro n i x hi q
        show wC_X11_next_25 post (n + 1) (nI hgh) (lsV (ms_a ms)) x (nI i) cs
        rw [wC_X11_next_25]
        refine p_no (nI_nlt (a := 100) (b := i) (by omega) (by decide)) (q_errorsAt R.1.1 _ _ ?_)
        rw [nI_1]
        unfold cnS at q
        refine p_two (fun h => ?_) (fun h => ?_)
        · rw [if_pos h] at q
          exact q
        · rw [if_neg h] at q
          exact q
      · rw [e']
        exact ⟨hgh + 2, k1 post hp⟩
    · intro post hp
      unfold wM_next
      rw [m_isIn, p_b0]
      refine p_val c (m_leastErrors hC _ ⟨102, up_loop (fun n x i => wM_next_22 post n (nI hgh) (lsV (ms_a ms)) x i ms) (cnS (ms_a ms)) (fun x => ∃ k : Nat, wM_next_67 post k (nI hgh) (lsV (ms_a ms)) x (-1) 1000000000 x 0 ms) 101 ?_ ?_ 0 ?_⟩)
      · intro n x q
        show wM_next_22 post (n + 1) (nI hgh) (lsV (ms_a ms)) x (nI 101) ms
        rw [wM_next_22]
        exact p_yes (by decide) q
      · intro n i x hi q
        show wM_next_22 post (n + 1) (nI hgh) (lsV (ms_a ms)) x (nI i) ms
        rw [wM_next_22]
        refine p_no (nI_nlt (a := 100) (b := i) (by omega) (by decide)) (m_errorsBy hC _ _ ?_)
        rw [nI_1]
        unfold cnS at q
        refine p_two (fun h => ?_) (fun h => ?_)
        · rw [if_pos h] at q
          exact q
        · rw [if_neg h] at q
          exact q
      · rw [e']
        exact ⟨hgh + 2, k2 post hp⟩
  · refine ⟨-1, cs, ms, ?_, ?_, R⟩
    · intro post hp
      unfold wC_X11_next
      rw [q_within, p_b0]
      exact p_inv hp (fun c1 => absurd c1 c)
    · intro post hp
      unfold wM_next
      rw [m_isIn, p_b0]
      exact p_inv hp (fun c1 => absurd c1 c)
