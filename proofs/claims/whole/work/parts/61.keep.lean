/-! PURE LAYER: keeping a step, both sides -/
theorem RS_push {rows now a a' : Nat → Int32} {p n : Nat} (hp : p < 30) (hn : n < 30) (N : RN now a) (R : RS rows (nI p) a) (T : Top a) (en : a 4 = nI n) (K : Kept n a a') : RS (va_cpy now rows 0 (74 * ((p + n) % 30)) 74) (nI p) a' ∧ Fresh a' := by
  obtain ⟨p', n', q1, q2, q3, q4, q5, q6, q7⟩ := R
  have ep : p' = p := ((nI_eq (by omega) (by omega)).mp q1).symm
  have en' : n' = n := by
    rw [en] at q3
    exact ((nI_eq (by omega) (by omega)).mp q3).symm
  subst ep en'
  obtain ⟨k1, k2, k3⟩ := K
  have h0 : a' 0 = a 0 := k3 0 (by omega) (by omega)
  have h1 : a' 1 = a 1 := k3 1 (by omega) (by omega)
  have hold : ∀ j, j < n' → ∀ i, i < 74 → a' (204 + 74 * j + i) = a (204 + 74 * j + i) := by
    intro j hj i hi
    exact k3 _ (by omega) (by omega)
  have hold2 : ∀ j, j < n' → ∀ i, i < 74 → a' (204 + 74 * j + jx i) = a (204 + 74 * j + jx i) := fun j hj i hi => hold j hj _ (jx_lt i hi)
  have htd : ∀ h, h < 6 → a' (15 + 6 * h) = a (15 + 6 * h) := fun h hh => k3 _ (by omega) (by omega)
  have t0 : a' (204 + 74 * n') = a 0 := k1 72 (by omega)
  have t1 : a' (205 + 74 * n') = a 1 := by
    have := k1 73 (by omega)
    rw [jx_73, show 204 + 74 * n' + 1 = 205 + 74 * n' by omega] at this
    exact this
  refine ⟨⟨p', n' + 1, rfl, hp, k2, by omega, ?_, ?_, ?_⟩, ?_⟩
  · intro j hj i hi
    by_cases e : j = n'
    · subst e
      rw [k1 i hi]
      have hN := N i hi
      refine ⟨?_, hN.1 ▸ hN.2⟩
      unfold va_cpy
      rw [if_pos (by omega), ← hN.1]
      congr 1
      omega
    · have hj' : j < n' := by omega
      rw [hold2 j hj' i hi]
      have q := q5 j hj' i hi
      refine ⟨?_, q.2⟩
      unfold va_cpy
      rw [if_neg (by omega)]
      exact q.1
  · intro j hj
    by_cases e : j + 1 = n'
    · have q := T j (by omega) (by rw [en, ← e])
      refine asTold_off q (hold2 j (by omega)) ?_ (fun h hh _ => htd h hh)
      intro i hi
      show a' (204 + 74 * (j + 1) + jx i) = a (ix i)
      rw [e]
      exact k1 i hi
    · exact asTold_off (q6 j (by omega)) (hold2 j (by omega)) (hold2 (j + 1) (by omega)) (fun h hh _ => htd h hh)
  · intro j hj
    rw [h0, h1]
    by_cases e : j = n'
    · subst e
      rw [t0, t1]
      exact ⟨Int32.le_refl _, Int32.le_refl _⟩
    · have e0 := hold j (by omega) 0 (by omega)
      have e1 := hold j (by omega) 1 (by omega)
      rw [Nat.add_zero] at e0
      rw [show 204 + 74 * j + 1 = 205 + 74 * j by omega] at e1
      rw [e0, e1]
      exact q7 j (by omega)
  · intro m hm em
    rw [k2] at em
    have : m = n' := by
      have := (nI_eq (by omega) (by omega)).mp em
      omega
    subst this
    rw [h0, h1]
    exact ⟨t0, t1⟩
def drA (a : Nat → Int32) : Nat → Int32 := upd (cpf a 204 278 2146) 4 29
theorem drA_out (a : Nat → Int32) {k : Nat} (h4 : k ≠ 4) (h : k < 204 ∨ 2350 ≤ k) : drA a k = a k := by
  unfold drA
  rw [upd_ne _ _ h4, cpf_out _ _ _ _ (by omega)]
theorem drA_row (a : Nat → Int32) {j i : Nat} (hj : j < 29) (hi : i < 74) : drA a (204 + 74 * j + i) = a (204 + 74 * (j + 1) + i) := by
  unfold drA
  rw [upd_ne _ _ (by omega), show 204 + 74 * j + i = 204 + (74 * j + i) by omega, cpf_in _ _ _ (by omega)]
  congr 1
  omega
theorem RS_drop {rows a : Nat → Int32} {p : Nat} (R : RS rows (nI p) a) (hp : p < 30) (e : a 4 = nI 30) : RS rows (nI ((p + 1) % 30)) (drA a) := by
  obtain ⟨p', n, q1, q2, q3, q4, q5, q6, q7⟩ := R
  have ep : p' = p := ((nI_eq (by omega) (by omega)).mp q1).symm
  have en' : n = 30 := by
    rw [e] at q3
    exact ((nI_eq (by omega) (by omega)).mp q3).symm
  subst ep en'
  have htd : ∀ h, h < 6 → drA a (15 + 6 * h) = a (15 + 6 * h) := fun h hh => drA_out a (by omega) (by omega)
  refine ⟨(p' + 1) % 30, 29, rfl, Nat.mod_lt _ (by decide), upd_eq _ _ _, by omega, ?_, ?_, ?_⟩
  · intro j hj i hi
    rw [drA_row a hj (jx_lt i hi)]
    have q := q5 (j + 1) (by omega) i hi
    rw [show (p' + (j + 1)) % 30 = ((p' + 1) % 30 + j) % 30 by omega] at q
    exact q
  · intro j hj
    refine asTold_off (q6 (j + 1) (by omega)) ?_ ?_ (fun h hh _ => htd h hh)
    · intro i hi
      exact drA_row a (by omega) (jx_lt i hi)
    · intro i hi
      exact drA_row a (by omega) (jx_lt i hi)
  · intro j hj
    have e0 := drA_row a (j := j) (i := 0) hj (by omega)
    have e1 := drA_row a (j := j) (i := 1) hj (by omega)
    rw [Nat.add_zero, Nat.add_zero] at e0
    rw [show 204 + 74 * j + 1 = 205 + 74 * j by omega, show 204 + 74 * (j + 1) + 1 = 205 + 74 * (j + 1) by omega] at e1
    rw [e0, e1, drA_out a (k := 0) (by omega) (by omega), drA_out a (k := 1) (by omega) (by omega)]
    exact q7 (j + 1) (by omega)
theorem Top_drop {a : Nat → Int32} (T : Top a) (e : a 4 = nI 30) : Top (drA a) := by
  intro n hn en
  have : n = 28 := by
    rw [show drA a 4 = nI 29 from upd_eq _ _ _] at en
    have := (nI_eq (by omega) (by omega)).mp en
    omega
  subst this
  refine asTold_off (T 29 (by omega) e) ?_ ?_ ?_
  · intro i hi
    exact drA_row a (by omega) (jx_lt i hi)
  · intro i hi
    have := ix_now i hi
    exact drA_out a (by omega) (by omega)
  · intro h hh _
    exact drA_out a (by omega) (by omega)
theorem RN_drop {f a : Nat → Int32} (N : RN f a) : RN f (drA a) := by
  refine RN_off N ?_
  intro i hi
  have := ix_now i hi
  exact drA_out a (by omega) (by omega)
theorem RC_keep {c : CS_c} {a a' : Nat → Int32} (R : RC c a) {rows' : Nat → Int32} {first' v : Int32} (v0 : 0 ≤ v) (v1 : v ≤ 30) (e : a' 4 = v) (h : ∀ k, k ≠ 4 → (k < 204 ∨ 2424 ≤ k) → a' k = a k) (S : RS rows' first' a') : RC (c.1, c.2.1, c.2.2.1, c.2.2.2.1, c.2.2.2.2.1, c.2.2.2.2.2.1, c.2.2.2.2.2.2.1, c.2.2.2.2.2.2.2.1, c.2.2.2.2.2.2.2.2.1, c.2.2.2.2.2.2.2.2.2.1, c.2.2.2.2.2.2.2.2.2.2.1, c.2.2.2.2.2.2.2.2.2.2.2.1, c.2.2.2.2.2.2.2.2.2.2.2.2.1, c.2.2.2.2.2.2.2.2.2.2.2.2.2.1, c.2.2.2.2.2.2.2.2.2.2.2.2.2.2.1, rows', first', v) a' := by
  refine ⟨?_, ?_, ?_, S, ?_⟩
  · refine RN_off R.1 ?_
    intro i hi
    have := ix_now i hi
    exact h _ (by omega) (by omega)
  · have q := RO_count R.2.1 v0 v1
    refine RO_ext (RO_off q ?_) ?_
    · intro i h1 h2
      have := (ix_lt i h2).2.1
      by_cases e4 : ix i = 4
      · rw [e4, upd_eq]
        exact e
      · rw [upd_ne _ _ e4]
        exact h _ e4 (by omega)
    · intro i h1 h2
      refine oC_ext (j := 0) ?_ ?_ ?_ ?_ ?_ ?_ ?_ ?_ ?_ ?_ ?_ ?_ i h1 h2 (by omega)
      · intro _ _ _
        simp only [cc_kinds]
      · intro _ _ _
        simp only [cc_skills]
      · intro _ _ _
        simp only [cc_ages]
      · intro _ _ _
        simp only [cc_turns]
      · intro _ _ _
        simp only [cc_costs]
      · intro _ _ _
        simp only [cc_worths]
      · intro _ _ _
        simp only [cc_aheads]
      · intro _
        simp only [cc_textCount]
      · intro _
        simp only [cc_ruling]
      · intro _
        simp only [cc_trialCount]
      · intro _
        simp only [cc_grownCount]
      · intro _
        simp only [cc_count]
  · show RT (cc_trials c) (cc_growns c) a'
    refine RT_off R.2.2.1 ?_
    intro k hk
    exact h _ (by omega) (by omega)
  · rw [h 3 (by omega) (by omega), h 2 (by omega) (by omega)]
    exact R.2.2.2.2
/-- beside the rows of the steps nothing changes -/
def kC (cs cs' : CS) : Prop := ∃ (rows' : Nat → Int32) (first' v : Int32), cs'.1 = (cs.1.1, cs.1.2.1, cs.1.2.2.1, cs.1.2.2.2.1, cs.1.2.2.2.2.1, cs.1.2.2.2.2.2.1, cs.1.2.2.2.2.2.2.1, cs.1.2.2.2.2.2.2.2.1, cs.1.2.2.2.2.2.2.2.2.1, cs.1.2.2.2.2.2.2.2.2.2.1, cs.1.2.2.2.2.2.2.2.2.2.2.1, cs.1.2.2.2.2.2.2.2.2.2.2.2.1, cs.1.2.2.2.2.2.2.2.2.2.2.2.2.1, cs.1.2.2.2.2.2.2.2.2.2.2.2.2.2.1, cs.1.2.2.2.2.2.2.2.2.2.2.2.2.2.2.1, rows', first', v) ∧ cs'.2 = cs.2
theorem q_keep28 {S : CS} {p n : Nat} (hp : p < 30) (hn : n < 30) (e1 : cx_cs_first S = nI p) (e2 : cx_cs_count S = nI n) (post : CS → Prop) (h : post (cx_set_cs_count (cx_set_cs_rows S (va_cpy (cx_c_now S) (cx_cs_rows S) 0 (74 * ((p + n) % 30)) 74)) (nI (n + 1)))) : wC_X8_keepRow_city_now_28 post S := by
  unfold wC_X8_keepRow_city_now_28 wC_X8_startOf
  simp only [p_all, gs_count_rows]
  have hm : (p + n) % 30 < 30 := Nat.mod_lt _ (by decide)
  have r30 : k_rem (nI (p + n)) 30 = nI ((p + n) % 30) := p_rem (d := 30) (by omega) (by decide)
  rw [e1, e2, nI_add, r30, nI_ml 74 ((p + n) % 30), nI_1, Nat.mul_comm]
  have cp : k_copyP 74 2220 (cx_c_now S) 0 (cx_cs_rows S) (nI (74 * ((p + n) % 30))) 74 = va_cpy (cx_c_now S) (cx_cs_rows S) 0 (74 * ((p + n) % 30)) 74 := by
    unfold k_copyP
    have s1 : nI 2220 - nI (74 * ((p + n) % 30)) = nI (2220 - 74 * ((p + n) % 30)) := nI_sub (by omega)
    have s2 : ¬ nI (2220 - 74 * ((p + n) % 30)) < 74 := nI_nlt (a := 2220 - 74 * ((p + n) % 30)) (b := 74) (by omega) (by omega)
    rw [if_neg (by decide), if_neg (nI_pos (by omega)), if_neg (by decide), if_neg (by decide), s1, if_neg s2, nI_clamp (by omega)]
    rfl
  rw [cp]
  exact h
theorem sim_keepT {cs : CS} {ms : MS} (R : Rel cs ms) : ∃ (cs' : CS) (ms' : MS), rv (wC_X8_keepRow_city_now cs) cs' ∧ rv (wM_keep ms) ms' ∧ Rel cs' ms' ∧ Fresh (ms_a ms') ∧ cx_c_now cs' = cx_c_now cs ∧ (∀ k, k ≠ 4 → (k < 204 ∨ 2424 ≤ k) → ms_a ms' k = ms_a ms k) ∧ kT cs ms cs' ms' := by
  have hc := bd_count R.1.1
  have ec := rd_count R.1.1
  obtain ⟨p, n, q1, q2, q3, q4, _⟩ := R.1.1.2.2.2.1
  have ef : cx_cs_first cs = nI p := q1
  have RS0 : RS (cx_cs_rows cs) (nI p) (ms_a ms) := by
    have := R.1.1.2.2.2.1
    rw [show cc_first cs.1 = nI p from q1] at this
    exact this
  have hRel : ∀ (cs' : CS) (a' rows' : Nat → Int32) (first' : Int32) (m : Nat), m < 30 → cs'.1 = (cs.1.1, cs.1.2.1, cs.1.2.2.1, cs.1.2.2.2.1, cs.1.2.2.2.2.1, cs.1.2.2.2.2.2.1, cs.1.2.2.2.2.2.2.1, cs.1.2.2.2.2.2.2.2.1, cs.1.2.2.2.2.2.2.2.2.1, cs.1.2.2.2.2.2.2.2.2.2.1, cs.1.2.2.2.2.2.2.2.2.2.2.1, cs.1.2.2.2.2.2.2.2.2.2.2.2.1, cs.1.2.2.2.2.2.2.2.2.2.2.2.2.1, cs.1.2.2.2.2.2.2.2.2.2.2.2.2.2.1, cs.1.2.2.2.2.2.2.2.2.2.2.2.2.2.2.1, rows', first', nI (m + 1)) → cs'.2 = cs.2 → a' 4 = nI (m + 1) → (∀ k, k ≠ 4 → (k < 204 ∨ 2424 ≤ k) → a' k = ms_a ms k) → RS rows' first' a' → Fresh a' → Rel cs' (ms_set_a ms a') := by
    intro cs' a' rows' first' m hm g1 g2 g3 g4 g5 g6
    refine Rel_a R g2 ?_ ?_ ?_ (Top_fresh g6)
    · rw [g1]
      simp only [cc_texts]
    · rw [g1]
      simp only [cc_textCount]
    · rw [g1]
      exact RC_keep R.1.1 (nI_pos' (by omega)) (nI_le (b := 30) (by omega) (by decide)) g3 g4 g5
  by_cases c : n < 30
  · obtain ⟨a', K, hM⟩ := m_keep_56 c q3
    obtain ⟨P1, P2⟩ := RS_push q2 c R.1.1.1 RS0 R.2 q3 K
    have ka : ∀ k, k ≠ 4 → (k < 204 ∨ 2424 ≤ k) → a' k = ms_a ms k := fun k h4 hk => K.2.2 k h4 (by omega)
    refine ⟨cx_set_cs_count (cx_set_cs_rows cs (va_cpy (cx_c_now cs) (cx_cs_rows cs) 0 (74 * ((p + n) % 30)) 74)) (nI (n + 1)), ms_set_a ms a', ?_, ?_, ?_, P2, ?_, ka, by simp only [cx_c_texts, cx_set_cs_count, cx_set_cs_rows, cx_set_cs_first], ka 2 (by omega) (by omega)⟩
    · intro post hp
      unfold wC_X8_keepRow_city_now
      refine p_yes ?_ (q_keep28 q2 c ef (ec.trans q3) post hp)
      rw [ec, q3]
      exact nI_lt (b := 30) c (by decide)
    · intro post hp
      unfold wM_keep
      refine p_no ?_ (hM post hp)
      rw [q3]
      intro h
      have := (nI_eq (b := 30) (by omega) (by decide)).mp h
      omega
    · exact hRel _ a' (va_cpy (cx_c_now cs) (cx_cs_rows cs) 0 (74 * ((p + n) % 30)) 74) (cx_cs_first cs) n c (by simp only [cx_set_cs_count, cx_set_cs_rows, cx_cs_first]) (by simp only [cx_set_cs_count, cx_set_cs_rows]) K.2.1 ka (by rw [ef]; exact P1) P2
    · rw [gs_now_count, gs_now_rows]
  · have e30 : n = 30 := by omega
    subst e30
    have e4 : ms_a (ms_set_a ms (drA (ms_a ms))) 4 = nI 29 := by
      rw [g_aa]
      exact upd_eq _ _ _
    obtain ⟨a', K, hM⟩ := m_keep_56 (n := 29) (by decide) e4
    have K' : Kept 29 (drA (ms_a ms)) a' := K
    obtain ⟨P1, P2⟩ := RS_push (p := (p + 1) % 30) (n := 29) (Nat.mod_lt _ (by decide)) (by decide) (RN_drop R.1.1.1) (RS_drop RS0 q2 q3) (Top_drop R.2 q3) (upd_eq _ _ _) K'
    have ka : ∀ k, k ≠ 4 → (k < 204 ∨ 2424 ≤ k) → a' k = ms_a ms k := fun k h4 hk => (K'.2.2 k h4 (by omega)).trans (drA_out _ h4 (by omega))
    refine ⟨cx_set_cs_count (cx_set_cs_rows (cx_set_cs_count (cx_set_cs_first cs (nI ((p + 1) % 30))) 29) (va_cpy (cx_c_now cs) (cx_cs_rows cs) 0 (74 * (((p + 1) % 30 + 29) % 30)) 74)) (nI (29 + 1)), ms_set_a ms a', ?_, ?_, ?_, P2, ?_, ka, by simp only [cx_c_texts, cx_set_cs_count, cx_set_cs_rows, cx_set_cs_first], ka 2 (by omega) (by omega)⟩
    · intro post hp
      unfold wC_X8_keepRow_city_now
      refine p_no ?_ ?_
      · rw [ec, q3]
        decide
      · have r30 : k_rem (nI (p + 1)) 30 = nI ((p + 1) % 30) := p_rem (d := 30) (by omega) (by decide)
        rw [ef, nI_1, r30]
        intro S2 e2 S3 e3
        subst e2
        subst e3
        refine q_keep28 (p := (p + 1) % 30) (n := 29) (Nat.mod_lt _ (by decide)) (by decide) ?_ ?_ post ?_
        · rw [gs_first_count]
          simp only [cx_cs_first, cx_set_cs_first]
        · rw [gs_count_count]
          rfl
        · rw [gs_now_count, gs_now_first, gs_rows_count, gs_rows_first]
          exact hp
    · intro post hp
      unfold wM_keep
      exact p_yes q3 (m_keep_13 q3 post (hM post hp))
    · exact hRel _ a' (va_cpy (cx_c_now cs) (cx_cs_rows cs) 0 (74 * (((p + 1) % 30 + 29) % 30)) 74) (nI ((p + 1) % 30)) 29 (by decide) (by simp only [cx_set_cs_count, cx_set_cs_rows, cx_set_cs_first]) (by simp only [cx_set_cs_count, cx_set_cs_rows, cx_set_cs_first]) K'.2.1 ka P1 P2
    · rw [gs_now_count, gs_now_rows, gs_now_count, gs_now_first]
theorem sim_keep {cs : CS} {ms : MS} (R : Rel cs ms) : ∃ (cs' : CS) (ms' : MS), rv (wC_X8_keepRow_city_now cs) cs' ∧ rv (wM_keep ms) ms' ∧ Rel cs' ms' ∧ Fresh (ms_a ms') ∧ cx_c_now cs' = cx_c_now cs ∧ (∀ k, k ≠ 4 → (k < 204 ∨ 2424 ≤ k) → ms_a ms' k = ms_a ms k) := by
  obtain ⟨cs', ms', h1, h2, h3, h4, h5, h6, _⟩ := sim_keepT R
  exact ⟨cs', ms', h1, h2, h3, h4, h5, h6⟩
