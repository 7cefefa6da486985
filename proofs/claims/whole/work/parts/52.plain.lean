/-! PURE LAYER, methods without loops -/
theorem p_inv {c A B : Prop} (hA : A) (hB : c → B) : (¬ c → A) ∧ (¬ ¬ c → B) := ⟨fun _ => hA, fun h => hB (Classical.byContradiction h)⟩
theorem p_val {c A B : Prop} (h : c) (hB : B) : (¬ c → A) ∧ (¬ ¬ c → B) := ⟨fun n => absurd h n, fun _ => hB⟩
theorem p_yes {c A B : Prop} (h : c) (hA : A) : (c → A) ∧ (¬ c → B) := ⟨fun _ => hA, fun n => absurd h n⟩
theorem p_no {c A B : Prop} (h : ¬ c) (hB : B) : (c → A) ∧ (¬ c → B) := ⟨fun n => absurd n h, fun _ => hB⟩
theorem p_two {c A B : Prop} (hA : c → A) (hB : ¬ c → B) : (c → A) ∧ (¬ c → B) := ⟨hA, hB⟩
theorem RC_other {c c' : CS_c} {a : Nat → Int32} (R : RC c a) {j : Nat} {v : Int32} (hj : (71 ≤ j ∧ j < 151) ∨ (167 ≤ j ∧ j < 188)) (e1 : cc_now c' = cc_now c) (e2 : cc_trials c' = cc_trials c) (e3 : cc_growns c' = cc_growns c) (e4 : cc_rows c' = cc_rows c) (e5 : cc_first c' = cc_first c) (O : RO (oC c') (upd a j v)) : RC c' (upd a j v) := by
  have hu : ∀ k, k ≠ j → upd a j v k = a k := fun k hk => upd_ne a v hk
  refine ⟨?_, O, ?_, ?_, ?_⟩
  · rw [e1]
    refine RN_off R.1 ?_
    intro i hi
    have := ix_now i hi
    exact hu _ (by omega)
  · rw [e2, e3]
    refine RT_off R.2.2.1 ?_
    intro k hk
    exact hu _ (by omega)
  · rw [e4, e5]
    refine RS_off R.2.2.2.1 ?_ ?_ ?_ ?_
    · intro k hk
      exact hu _ (by omega)
    · intro k hk _
      exact hu _ (by omega)
    · rw [hu 0 (by omega)]
      exact Int32.le_refl _
    · rw [hu 1 (by omega)]
      exact Int32.le_refl _
  · rw [hu 3 (by omega), hu 2 (by omega)]
    exact R.2.2.2.2
theorem Top_far {a : Nat → Int32} (T : Top a) {j : Nat} {v : Int32} (hj : (71 ≤ j ∧ j < 204) ∨ j = 2 ∨ j = 3 ∨ j = 5 ∨ j = 6) : Top (upd a j v) := by
  have hu : ∀ k, k ≠ j → upd a j v k = a k := fun k hk => upd_ne a v hk
  refine Top_off T ?_ ?_ ?_
  · intro k hk
    exact hu _ (by omega)
  · intro i hi
    have := ix_now i hi
    exact hu _ (by omega)
  · intro k hk _
    exact hu _ (by omega)
theorem Rel_a {cs cs' : CS} {ms : MS} {a' : Nat → Int32} (R : Rel cs ms) (e : cs'.2 = cs.2) (e1 : cc_texts cs'.1 = cc_texts cs.1) (e2 : cc_textCount cs'.1 = cc_textCount cs.1) (C : RC cs'.1 a') (T : Top a') : Rel cs' (ms_set_a ms a') := by
  refine ⟨?_, T⟩
  obtain ⟨⟨r1, r2, r3, r4, r5⟩, _⟩ := R
  unfold Rel0 RelV
  rw [show cs'.2.1 = cs.2.1 by rw [e], show cs'.2.2.1 = cs.2.2.1 by rw [e], show cs'.2.2.2.2 = cs.2.2.2.2 by rw [e], e1, e2]
  exact ⟨C, r2, r3, r4, r5⟩
/-- the texts stay -/
def kT (cs : CS) (ms : MS) (cs' : CS) (ms' : MS) : Prop := cx_c_texts cs' = cx_c_texts cs ∧ ms_a ms' 2 = ms_a ms 2
theorem sim_mood {cs : CS} {ms : MS} (R : Rel cs ms) (p1 p2 p3 : Int32) : ∃ (r : Int32) (cs' : CS) (ms' : MS), rt (wC_X11_mood p1 p2 p3 cs) r cs' ∧ rt (wM_mood p1 p2 p3 ms) r ms' ∧ Rel cs' ms' ∧ (r = 0 ∨ r = 1) ∧ kT cs ms cs' ms' := by
  by_cases c : (0 ≤ p1 ∧ p1 ≤ 4) ∧ (0 ≤ p2 ∧ p2 ≤ 9) ∧ (0 ≤ p3 ∧ p3 ≤ 9)
  · obtain ⟨c1, c2, c3⟩ := c
    obtain ⟨f, hf, rfl⟩ := p_rng2 (n := 4) (by decide) c1.1 c1.2
    obtain ⟨m, hm, rfl⟩ := p_rng2 (n := 9) (by decide) c2.1 c2.2
    refine ⟨1, cx_set_c_turns cs (upd (cx_c_turns cs) (10 * f + m) p3), ms_set_a ms (upd (ms_a ms) (71 + (10 * f + m)) p3), ?_, ?_, ?_, Or.inr rfl, rfl, upd_ne _ _ (by omega)⟩
    · intro post hp
      unfold wC_X11_mood
      simp only [q_isFall, q_isMood, p_b0, p_all]
      refine p_val c1 (p_val c2 (p_val c3 ?_))
      rw [nI_ml 10 f, nI_add, p_put (by decide) _ (show f * 10 + m < 50 by omega), Nat.mul_comm f 10]
      exact hp
    · intro post hp
      unfold wM_mood
      simp only [m_isKind, m_isIn, p_b0, p_all]
      refine p_val c1 (p_val c2 (p_val c3 ?_))
      rw [nI_lm 10 f, nI_la 71 (10 * f), nI_add, p_vp (by omega) (by decide), nI_clamp (by omega), Nat.add_assoc]
      exact hp
    · refine Rel_a R rfl rfl rfl ?_ (Top_far R.2 (by omega))
      exact RC_other R.1.1 (by omega) rfl rfl rfl rfl rfl (RO_turns R.1.1.2.1 (by omega) c3.1 c3.2)
  · refine ⟨0, cs, ms, ?_, ?_, R, Or.inl rfl, rfl, rfl⟩
    · intro post hp
      unfold wC_X11_mood
      simp only [q_isFall, q_isMood, p_b0, p_all]
      exact p_inv hp (fun c1 => p_inv hp (fun c2 => p_inv hp (fun c3 => absurd ⟨c1, c2, c3⟩ c)))
    · intro post hp
      unfold wM_mood
      simp only [m_isKind, m_isIn, p_b0, p_all]
      exact p_inv hp (fun c1 => p_inv hp (fun c2 => p_inv hp (fun c3 => absurd ⟨c1, c2, c3⟩ c)))
theorem sim_cost {cs : CS} {ms : MS} (R : Rel cs ms) (p1 p2 p3 : Int32) : ∃ (r : Int32) (cs' : CS) (ms' : MS), rt (wC_X11_cost p1 p2 p3 cs) r cs' ∧ rt (wM_cost p1 p2 p3 ms) r ms' ∧ Rel cs' ms' ∧ (r = 0 ∨ r = 1) := by
  by_cases c : (0 ≤ p1 ∧ p1 ≤ 4) ∧ (0 ≤ p2 ∧ p2 ≤ 5) ∧ (0 ≤ p3 ∧ p3 ≤ 99)
  · obtain ⟨c1, c2, c3⟩ := c
    obtain ⟨f, hf, rfl⟩ := p_rng2 (n := 4) (by decide) c1.1 c1.2
    obtain ⟨m, hm, rfl⟩ := p_rng2 (n := 5) (by decide) c2.1 c2.2
    refine ⟨1, cx_set_c_costs cs (upd (cx_c_costs cs) (6 * f + m) p3), ms_set_a ms (upd (ms_a ms) (121 + (6 * f + m)) p3), ?_, ?_, ?_, Or.inr rfl⟩
    · intro post hp
      unfold wC_X11_cost
      simp only [q_within, p_b0, p_all]
      refine p_val c1 (p_val c2 (p_val c3 ?_))
      rw [nI_ml 6 f, nI_add, p_put (by decide) _ (show f * 6 + m < 30 by omega), Nat.mul_comm f 6]
      exact hp
    · intro post hp
      unfold wM_cost
      simp only [m_isIn, p_b0, p_all]
      refine p_val c1 (p_val c2 (p_val c3 ?_))
      rw [nI_lm 6 f, nI_la 121 (6 * f), nI_add, p_vp (by omega) (by decide), nI_clamp (by omega), Nat.add_assoc]
      exact hp
    · refine Rel_a R rfl rfl rfl ?_ (Top_far R.2 (by omega))
      exact RC_other R.1.1 (by omega) rfl rfl rfl rfl rfl (RO_costs R.1.1.2.1 (by omega) c3.1 c3.2)
  · refine ⟨0, cs, ms, ?_, ?_, R, Or.inl rfl⟩
    · intro post hp
      unfold wC_X11_cost
      simp only [q_within, p_b0, p_all]
      exact p_inv hp (fun c1 => p_inv hp (fun c2 => p_inv hp (fun c3 => absurd ⟨c1, c2, c3⟩ c)))
    · intro post hp
      unfold wM_cost
      simp only [m_isIn, p_b0, p_all]
      exact p_inv hp (fun c1 => p_inv hp (fun c2 => p_inv hp (fun c3 => absurd ⟨c1, c2, c3⟩ c)))
theorem sim_worth {cs : CS} {ms : MS} (R : Rel cs ms) (p1 p2 : Int32) : ∃ (r : Int32) (cs' : CS) (ms' : MS), rt (wC_X11_worth p1 p2 cs) r cs' ∧ rt (wM_worth p1 p2 ms) r ms' ∧ Rel cs' ms' ∧ (r = 0 ∨ r = 1) := by
  by_cases c : (1 ≤ p1 ∧ p1 ≤ 15) ∧ (0 ≤ p2 ∧ p2 ≤ 999)
  · obtain ⟨c1, c2⟩ := c
    obtain ⟨f, hf, rfl⟩ := p_rng2 (n := 15) (by decide) (Int32.le_trans (by decide) c1.1) c1.2
    refine ⟨1, cx_set_c_worths cs (upd (cx_c_worths cs) f p2), ms_set_a ms (upd (ms_a ms) (167 + f) p2), ?_, ?_, ?_, Or.inr rfl⟩
    · intro post hp
      unfold wC_X11_worth
      simp only [q_within, p_b0, p_all]
      refine p_val c1 (p_val c2 ?_)
      rw [p_put (by decide) _ (show f < 16 by omega)]
      exact hp
    · intro post hp
      unfold wM_worth
      simp only [m_isIn, p_b0, p_all]
      refine p_val c1 (p_val c2 ?_)
      rw [nI_la 167 f, p_vp (by omega) (by decide), nI_clamp (by omega)]
      exact hp
    · refine Rel_a R rfl rfl rfl ?_ (Top_far R.2 (by omega))
      exact RC_other R.1.1 (by omega) rfl rfl rfl rfl rfl (RO_worths R.1.1.2.1 (by omega) c2.1 c2.2)
  · refine ⟨0, cs, ms, ?_, ?_, R, Or.inl rfl⟩
    · intro post hp
      unfold wC_X11_worth
      simp only [q_within, p_b0, p_all]
      exact p_inv hp (fun c1 => p_inv hp (fun c2 => absurd ⟨c1, c2⟩ c))
    · intro post hp
      unfold wM_worth
      simp only [m_isIn, p_b0, p_all]
      exact p_inv hp (fun c1 => p_inv hp (fun c2 => absurd ⟨c1, c2⟩ c))
theorem bt_shl : ∀ x, x < 32 → ∀ k, k < 5 → (nI x ||| k_shl 1 (nI k)) = nI (x ||| 2 ^ k) ∧ x ||| 2 ^ k < 32 ∧ ((k_shr (nI x) (nI k) &&& 1 = 1 ∧ x ||| 2 ^ k = x) ∨ k_shr (nI x) (nI k) &&& 1 = 0) := by decide +kernel
theorem sim_behind {cs : CS} {ms : MS} (R : Rel cs ms) (p1 p2 : Int32) : ∃ (r : Int32) (cs' : CS) (ms' : MS), rt (wC_X11_behind p1 p2 cs) r cs' ∧ rt (wM_behind p1 p2 ms) r ms' ∧ Rel cs' ms' ∧ (r = 0 ∨ r = 1) := by
  by_cases c : (0 ≤ p1 ∧ p1 ≤ 4) ∧ (0 ≤ p2 ∧ p2 ≤ 4) ∧ ¬ p1 = p2
  · obtain ⟨c1, c2, c3⟩ := c
    obtain ⟨f, hf, rfl⟩ := p_rng2 (n := 4) (by decide) c1.1 c1.2
    obtain ⟨k, hk, rfl⟩ := p_rng2 (n := 4) (by decide) c2.1 c2.2
    have hb := bd_aheads R.1.1 (h := f) (by omega)
    obtain ⟨x, hx, ex⟩ := p_rng2 (n := 31) (by decide) hb.1 hb.2
    obtain ⟨b1, b2, b3⟩ := bt_shl x (by omega) k (by omega)
    have e1 : cx_c_aheads cs f = nI x := (rd_aheads R.1.1 (by omega)).trans ex
    have hC : RC (cx_set_c_aheads cs (upd (cx_c_aheads cs) f (nI (x ||| 2 ^ k)))).1 (upd (ms_a ms) (183 + f) (nI (x ||| 2 ^ k))) :=
      RC_other R.1.1 (by omega) rfl rfl rfl rfl rfl (RO_aheads R.1.1.2.1 (by omega) (nI_pos' (by omega)) (nI_le (b := 31) (by omega) (by decide)))
    have hR : Rel (cx_set_c_aheads cs (upd (cx_c_aheads cs) f (nI (x ||| 2 ^ k)))) (ms_set_a ms (upd (ms_a ms) (183 + f) (nI (x ||| 2 ^ k)))) := Rel_a R rfl rfl rfl hC (Top_far R.2 (by omega))
    rcases b3 with ⟨b3, b4⟩ | b3
    · have e2 : upd (ms_a ms) (183 + f) (nI (x ||| 2 ^ k)) = ms_a ms := by
        funext j
        by_cases ej : j = 183 + f
        · subst ej
          rw [upd_eq, b4]
          exact ex.symm
        · exact upd_ne _ _ ej
      rw [e2] at hR
      refine ⟨0, cx_set_c_aheads cs (upd (cx_c_aheads cs) f (nI (x ||| 2 ^ k))), ms, ?_, ?_, hR, Or.inl rfl⟩
      · intro post hp
        unfold wC_X11_behind
        simp only [q_isFall, p_b0, p_all]
        refine p_val c1 (p_val c2 (p_no c3 ?_))
        rw [p_put (by decide) _ (show f < 5 by omega), p_at (by decide) _ (show f < 5 by omega), e1, b1, b3]
        exact p_no (by decide) hp
      · intro post hp
        unfold wM_behind wM_has
        simp only [m_isKind, p_b0, p_all]
        refine p_val c1 (p_val c2 (p_no c3 ?_))
        rw [nI_la 183 f, nI_clamp (by omega), ex, b3]
        exact ⟨vp_in_nI (by omega) (by decide), p_yes rfl (p_no (by decide) hp)⟩
    · refine ⟨1, cx_set_c_aheads cs (upd (cx_c_aheads cs) f (nI (x ||| 2 ^ k))), ms_set_a ms (upd (ms_a ms) (183 + f) (nI (x ||| 2 ^ k))), ?_, ?_, hR, Or.inr rfl⟩
      · intro post hp
        unfold wC_X11_behind
        simp only [q_isFall, p_b0, p_all]
        refine p_val c1 (p_val c2 (p_no c3 ?_))
        rw [p_put (by decide) _ (show f < 5 by omega), p_at (by decide) _ (show f < 5 by omega), e1, b1, b3]
        exact p_yes rfl hp
      · intro post hp
        unfold wM_behind wM_has
        simp only [m_isKind, p_b0, p_all]
        refine p_val c1 (p_val c2 (p_no c3 ?_))
        rw [nI_la 183 f, nI_clamp (by omega), ex, b3, b1]
        exact ⟨vp_in_nI (by omega) (by decide), p_no (by decide) (p_yes trivial ⟨vp_in_nI (by omega) (by decide), vp_in_nI (by omega) (by decide), hp⟩)⟩
  · refine ⟨0, cs, ms, ?_, ?_, R, Or.inl rfl⟩
    · intro post hp
      unfold wC_X11_behind
      simp only [q_isFall, p_b0, p_all]
      exact p_inv hp (fun c1 => p_inv hp (fun c2 => p_two (fun _ => hp) (fun c3 => absurd ⟨c1, c2, c3⟩ c)))
    · intro post hp
      unfold wM_behind wM_has
      simp only [m_isKind, p_b0, p_all]
      exact p_inv hp (fun c1 => p_inv hp (fun c2 => p_two (fun _ => hp) (fun c3 => absurd ⟨c1, c2, c3⟩ c)))
theorem RC_count {c c' : CS_c} {a a' : Nat → Int32} (R : RC c a) (hu : ∀ k, k ≠ 5 → k ≠ 6 → ¬ (151 ≤ k ∧ k < 167) → ¬ (188 ≤ k ∧ k < 204) → a' k = a k) (e1 : cc_now c' = cc_now c) (e4 : cc_rows c' = cc_rows c) (e5 : cc_first c' = cc_first c) (O : RO (oC c') a') (T : RT (cc_trials c') (cc_growns c') a') : RC c' a' := by
  refine ⟨?_, O, T, ?_, ?_⟩
  · rw [e1]
    refine RN_off R.1 ?_
    intro i hi
    have := ix_now i hi
    exact hu _ (by omega) (by omega) (by omega) (by omega)
  · rw [e4, e5]
    refine RS_off R.2.2.2.1 ?_ ?_ ?_ ?_
    · intro k hk
      exact hu _ (by omega) (by omega) (by omega) (by omega)
    · intro k hk _
      exact hu _ (by omega) (by omega) (by omega) (by omega)
    · rw [hu 0 (by omega) (by omega) (by omega) (by omega)]
      exact Int32.le_refl _
    · rw [hu 1 (by omega) (by omega) (by omega) (by omega)]
      exact Int32.le_refl _
  · rw [hu 3 (by omega) (by omega) (by omega) (by omega), hu 2 (by omega) (by omega) (by omega) (by omega)]
    exact R.2.2.2.2
theorem Top_count {a a' : Nat → Int32} (T : Top a) (hu : ∀ k, k ≠ 5 → k ≠ 6 → ¬ (151 ≤ k ∧ k < 167) → ¬ (188 ≤ k ∧ k < 204) → a' k = a k) : Top a' := by
  refine Top_off T ?_ ?_ ?_
  · intro k hk
    exact hu _ (by omega) (by omega) (by omega) (by omega)
  · intro i hi
    have := ix_now i hi
    exact hu _ (by omega) (by omega) (by omega) (by omega)
  · intro k hk _
    exact hu _ (by omega) (by omega) (by omega) (by omega)
theorem sim_by {cs : CS} {ms : MS} (R : Rel cs ms) (p1 : Int32) : ∃ (r : Int32) (cs' : CS) (ms' : MS), rt (wC_X11_by p1 cs) r cs' ∧ rt (wM_by p1 ms) r ms' ∧ Rel cs' ms' ∧ (r = 0 ∨ r = 1) := by
  have hb := bd_textCount R.1.1
  have e1 := rd_textCount R.1.1
  by_cases c : -1 ≤ p1 ∧ p1 < ms_a ms 2
  · refine ⟨1, cx_set_c_ruling cs p1, ms_set_a ms (upd (ms_a ms) 3 p1), ?_, ?_, ?_, Or.inr rfl⟩
    · intro post hp
      unfold wC_X11_by
      simp only [q_within, p_b0, p_all]
      rw [e1, p_lt1 ⟨hb.1, Int32.le_trans hb.2 (by decide)⟩]
      exact p_val c hp
    · intro post hp
      unfold wM_by
      simp only [m_isIn, p_b0, p_all]
      rw [p_lt1 ⟨hb.1, Int32.le_trans hb.2 (by decide)⟩]
      exact p_val c hp
    · refine Rel_a R rfl rfl rfl ?_ (Top_far R.2 (by omega))
      have hu : ∀ k, k ≠ 3 → upd (ms_a ms) 3 p1 k = ms_a ms k := fun k hk => upd_ne _ p1 hk
      refine ⟨?_, RO_ruling R.1.1.2.1 c.1 (by grind), ?_, ?_, ?_⟩
      · refine RN_off R.1.1.1 ?_
        intro i hi
        have := ix_now i hi
        exact hu _ (by omega)
      · refine RT_off R.1.1.2.2.1 ?_
        intro k hk
        exact hu _ (by omega)
      · refine RS_off R.1.1.2.2.2.1 ?_ ?_ ?_ ?_
        · intro k hk
          exact hu _ (by omega)
        · intro k hk _
          exact hu _ (by omega)
        · rw [hu 0 (by omega)]
          exact Int32.le_refl _
        · rw [hu 1 (by omega)]
          exact Int32.le_refl _
      · rw [upd_eq, hu 2 (by omega)]
        exact c.2
  · refine ⟨0, cs, ms, ?_, ?_, R, Or.inl rfl⟩
    · intro post hp
      unfold wC_X11_by
      simp only [q_within, p_b0, p_all]
      rw [e1, p_lt1 ⟨hb.1, Int32.le_trans hb.2 (by decide)⟩]
      exact p_inv hp (fun c1 => absurd c1 c)
    · intro post hp
      unfold wM_by
      simp only [m_isIn, p_b0, p_all]
      rw [p_lt1 ⟨hb.1, Int32.le_trans hb.2 (by decide)⟩]
      exact p_inv hp (fun c1 => absurd c1 c)
