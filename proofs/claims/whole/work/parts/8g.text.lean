/-! PURE LAYER: text -/
theorem RX_ext {px : List (Nat × TB)} {tx kx : Nat → Option Nat} {kc : Int32} {t : Nat} {y y' : Nat → Int32} (R : RX px tx (nI t) kx kc y) (ht : t ≤ 4) (h : ∀ k, k < 705 * t → y' k = y k) : RX px tx (nI t) kx kc y' := by
  obtain ⟨r1, r2, r3, r4, r5⟩ := R
  refine ⟨?_, r2, r3, r4, r5⟩
  intro t' h4 hlt
  have hlt' := (nI_ltI (by omega) (by omega)).mp hlt
  obtain ⟨ad, B, b1, b2, b3⟩ := r1 t' h4 hlt
  exact ⟨ad, B, b1, b2, TR_ext b3 (fun k hk => h _ (by omega))⟩
theorem RX_new {px : List (Nat × TB)} {tx kx : Nat → Option Nat} {kc : Int32} {t : Nat} {y y' : Nat → Int32} (R : RX px tx (nI t) kx kc y) (ht : t < 4) (h : ∀ k, k < 705 * t → y' k = y k) {ad : Nat} {B : TB} (T : TR B (fun k => y' (705 * t + k))) : RX (px ++ [(ad, B)]) (va_up tx t (some ad)) (nI (t + 1)) kx kc y' := by
  obtain ⟨r1, r2, r3, r4, r5⟩ := R
  have last : (ad, B) ∈ px ++ [(ad, B)] := List.mem_append_right _ (List.mem_singleton.mpr rfl)
  refine ⟨?_, Int32.le_trans r2 (nI_le (by omega) (by omega)), ?_, ?_, ?_⟩
  · intro t' h4 hlt
    have hlt' := (nI_ltI (by omega) (by omega)).mp hlt
    by_cases z : t' = t
    · rw [z]
      exact ⟨ad, B, if_pos rfl, last, T⟩
    · obtain ⟨ad', B', b1, b2, b3⟩ := r1 t' h4 (nI_lt (by omega) (by omega))
      exact ⟨ad', B', (if_neg z).trans b1, List.mem_append_left _ b2, TR_ext b3 (fun k hk => h _ (by omega))⟩
  · intro t' h4 hlt
    have z : t' ≠ t := by
      intro z
      rw [z] at hlt
      exact Int32.lt_irrefl (Int32.lt_of_lt_of_le hlt r2)
    exact (r3 t' h4 hlt).trans (if_neg z).symm
  · intro t' h4 a ha
    by_cases z : t' = t
    · have e : some ad = some a := (if_pos z).symm.trans ha
      cases e
      exact ⟨B, last⟩
    · obtain ⟨B', hB⟩ := r4 t' h4 a ((if_neg z).symm.trans ha)
      exact ⟨B', List.mem_append_left _ hB⟩
  · intro t' h4 a ha
    obtain ⟨B', hB⟩ := r5 t' h4 a ha
    exact ⟨B', List.mem_append_left _ hB⟩
theorem RP_0 (tp mt : Nat → Int32) (f p : Int32) : RP 0 tp f p mt 0 f p := by
  refine ⟨rfl, by decide, by decide, ?_, rfl, rfl⟩
  intro i hi h
  exact absurd ((nI_ltI (b := 0) (by omega) (by decide)).mp h) (by omega)
theorem RC_text {c : CS_c} {a : Nat → Int32} (R : RC c a) {t : Nat} (ht : t < 4) (ea : a 2 = nI t) (tx : Nat → Option Nat) : RC (c.1, c.2.1, c.2.2.1, c.2.2.2.1, c.2.2.2.2.1, tx, nI (t + 1), c.2.2.2.2.2.2.2) (upd a 2 (nI (t + 1))) := by
  have hu : ∀ k, k ≠ 2 → upd a 2 (nI (t + 1)) k = a k := fun k hk => upd_ne _ _ hk
  have R0 : RO (oC (c.1, c.2.1, c.2.2.1, c.2.2.2.1, c.2.2.2.2.1, tx, c.2.2.2.2.2.2.1, c.2.2.2.2.2.2.2)) a := by
    refine RO_ext R.2.1 ?_
    intro i _ _
    simp only [oC, cc_kinds, cc_skills, cc_ages, cc_turns, cc_costs, cc_worths, cc_aheads, cc_textCount, cc_ruling, cc_trialCount, cc_grownCount, cc_count]
  refine ⟨?_, RO_textCount R0 (nI_pos' (by omega)) (nI_le (b := 4) (by omega) (by decide)), ?_, ?_, ?_⟩
  · refine RN_off R.1 ?_
    intro i hi
    have := ix_now i hi
    exact hu _ (by omega)
  · refine RT_off R.2.2.1 ?_
    intro k hk
    exact hu _ (by omega)
  · refine RS_off R.2.2.2.1 ?_ ?_ ?_ ?_
    · intro k hk
      exact hu _ (by omega)
    · intro k hk _
      exact hu _ (by omega)
    · rw [hu 0 (by omega)]
      exact Int32.le_refl _
    · rw [hu 1 (by omega)]
      exact Int32.le_refl _
  · rw [upd_eq, hu 3 (by omega)]
    have := R.2.2.2.2
    rw [ea] at this
    exact Int32.lt_of_lt_of_le this (nI_le (by omega) (by omega))
theorem Top_text {a : Nat → Int32} (T : Top a) (v : Int32) : Top (upd a 2 v) := by
  have hu : ∀ k, k ≠ 2 → upd a 2 v k = a k := fun k hk => upd_ne _ _ hk
  refine Top_off T ?_ ?_ ?_
  · intro k hk
    exact hu _ (by omega)
  · intro i hi
    have := ix_now i hi
    exact hu _ (by omega)
  · intro k hk _
    exact hu _ (by omega)
def fnM (m : MS) (f p : Int32) : MS := ms_set_taped (ms_set_faultPlace (ms_set_fault m f) p) 0
theorem fnM_f (m : MS) (f p : Int32) : ms_a (fnM m f p) = ms_a m ∧ ms_image (fnM m f p) = ms_image m ∧ ms_texts (fnM m f p) = ms_texts m ∧ ms_taped (fnM m f p) = 0 ∧ ms_fault (fnM m f p) = f ∧ ms_faultPlace (fnM m f p) = p := by
  refine ⟨?_, ?_, ?_, ?_, ?_, ?_⟩ <;> simp only [fnM, ms_set_taped, ms_set_faultPlace, ms_set_fault, ms_a, ms_image, ms_texts, ms_taped, ms_fault, ms_faultPlace]
theorem fnM_no {ms m : MS} (h4 : ¬ ms_a ms 2 = 4) {f : Nat} (hf : 0 < f ∧ f < 9) (h : rt (wM_readText ms) (nI f) m) : rt (wM_text ms) (-1) (fnM m (nI f) (ms_place m)) := by
  have nf : ¬ nI f = 0 := fun y => absurd ((nI_eq (b := 0) (by omega) (by decide)).mp y) (by omega)
  intro post hp
  unfold wM_text
  refine p_no h4 (h _ ?_)
  intro S4 e4
  have x1 : ms_fault S4 = nI f := by
    rw [e4]
    simp only [ms_set_fault, ms_fault]
  have x2 : ms_place S4 = ms_place m := by
    rw [e4]
    simp only [ms_set_fault, ms_place]
  rw [x1, x2]
  refine p_no nf ?_
  unfold wM_text_36
  intro S1 e1 S2 e2
  have x3 : S2 = fnM m (nI f) (ms_place m) := by
    rw [e2, e1, e4]
    rfl
  rw [x3, (fnM_f _ _ _).2.2.2.2.1]
  exact p_no nf hp
theorem fnM_yes {ms m : MS} (h4 : ¬ ms_a ms 2 = 4) (h : rt (wM_readText ms) 0 m) {t : Nat} (ea : ms_a m 2 = nI t) : rt (wM_text ms) (nI t) (ms_set_a (fnM m 0 (-1)) (upd (ms_a m) 2 (nI (t + 1)))) := by
  intro post hp
  unfold wM_text
  refine p_no h4 (h _ ?_)
  intro S4 e4
  have x1 : ms_fault S4 = 0 := by
    rw [e4]
    simp only [ms_set_fault, ms_fault]
  rw [x1]
  refine p_yes rfl ?_
  unfold wM_text_36
  intro S1 e1 S2 e2
  have x3 : S2 = fnM m 0 (-1) := by
    rw [e2, e1, e4]
    rfl
  obtain ⟨f1, f2, f3, f4, f5, f6⟩ := fnM_f m 0 (-1)
  rw [x3, f5, f1, ea, nI_1 t]
  refine p_yes rfl ?_
  intro S5 e5
  have x5 : ms_a S5 2 - 1 = nI t := by
    rw [e5]
    show upd (ms_a m) 2 (nI (t + 1)) 2 - 1 = nI t
    rw [upd_eq]
    exact nI_sub (a := t + 1) (b := 1) (by omega)
  rw [x5, e5]
  exact hp
theorem sim_text {cs : CS} {ms : MS} (R : Rel cs ms) : ∃ (r : Int32) (ms' : MS), rt (wM_text ms) r ms' ∧ ∀ post : Int32 → CS → Prop, (∀ cs', Rel cs' ms' → post r cs') → wC_X11_text cs post := by
  have hb := bd_textCount R.1.1
  have e1 := rd_textCount R.1.1
  obtain ⟨t, ht4, et⟩ := p_rng2 (n := 4) (by decide) hb.1 hb.2
  by_cases z4 : t = 4
  · have e4 : ms_a ms 2 = 4 := by
      rw [et, z4]
      rfl
    refine ⟨-1, ms, ?_, ?_⟩
    · intro post hp
      unfold wM_text
      exact p_yes e4 hp
    · intro post hp
      unfold wC_X11_text
      rw [e1, e4]
      exact p_no (by decide) (hp cs R)
  have ht : t < 4 := by omega
  have n4 : ¬ ms_a ms 2 = 4 := by
    rw [et]
    exact fun y => z4 ((nI_eq (b := 4) (by omega) (by decide)).mp y)
  have W : ∀ post, wC_X6_readTape cs (fun r S1 => ((r = none → post (-1) S1) ∧ (∀ a : Nat, r = some a → wC_X0_addText (some a) S1 (fun r2 S2 => post r2 S2)))) → wC_X11_text cs post := by
    intro post h
    unfold wC_X11_text
    rw [e1, et]
    exact p_yes (nI_lt (b := 4) ht (by decide)) h
  obtain ⟨⟨r1, r2, r3, r4, r5⟩, r6⟩ := R
  obtain ⟨q1, q2, q3, q4, q5, q6⟩ := r5
  obtain ⟨n, hn, en⟩ := p_rng2 (n := 300) (by decide) q2 q3
  obtain ⟨⟨s1, s2, s3⟩, s4, s5, s6, s7⟩ := bgC_f cs
  obtain ⟨m1, m2, m3, m4, m5, m6⟩ := bgM_f ms t
  have ecount : cc_textCount cs.1 = nI t := (rc_textCount r1).trans et
  rw [ecount] at r4
  have H : TP (bgC cs) (bgM ms t) n (fun i => (cx_r_tape cs i).toNatClampNeg) := by
    refine ⟨hn, s4.trans en, m4.trans (q1.symm.trans en), ?_⟩
    intro i hi
    rw [s5, m3]
    obtain ⟨v1, v2, v3⟩ := q4 i (by omega) (by rw [en]; exact nI_lt hi (by omega))
    obtain ⟨j, hj, ej⟩ := p_rng2 (n := 255) (by decide) v2 v3
    have ej' : cx_r_tape cs i = nI j := ej
    have v1' : cx_r_tape cs i = ms_tape ms i := v1
    dsimp only
    rw [← v1', ej', nI_clamp (by omega)]
    exact ⟨rfl, rfl, hj⟩
  obtain ⟨ct, s, e, nc, nr, tk, wv, ⟨a1, a2, a3, a4, a5⟩, F, a7, hC, hM⟩ := sim_adv H (p := 0) (by omega)
  have hc0 : CC (bgC cs) ct s e nc [] 0 (cA (bgC cs) (nI ct) (nI s) (nI e) (if ct = 32 then nI nc else cx_r_number cs) (cx_r_code cs) 0 0 0) := ⟨_, _, rfl, fun z => if_pos z, fun j q hj => by simp at hj⟩
  have hm0 : KM (bgM ms t) (fun i => (cx_r_tape cs i).toNatClampNeg) t (upd (ms_texts ms) (705 * t) 0) ct s e nr [] (mA (bgM ms t) (nI e) (nI s) tk (if ct = 32 then nI nr else ms_number ms) (if tk = 2 then wv else ms_word ms) (upd (ms_texts ms) (705 * t) 0) 0 (ms_pile ms) (ms_piled ms) (ms_opens ms) (ms_isWhole ms)) := by
    refine ⟨tk, _, _, _, _, _, _, _, rfl, ?_, fun z => if_pos z, fun j q hj => by simp at hj, fun _ _ => rfl⟩
    obtain ⟨g1, g2, g3, g4, g5, g6, g7⟩ := F
    refine ⟨g1, g2, g3, g4, g5, ?_, g7⟩
    intro z
    rw [if_pos z]
    exact g6 z
  have hI : TI (bgC cs) (bgM ms t) (upd (ms_texts ms) (705 * t) 0) t [] 0 0 := by
    refine ⟨s6, by omega, upd_eq _ _ _, m5, m6, by omega, fun k hk => absurd hk (by omega), ?_⟩
    intro s hs
    refine Or.inl ⟨Nat.zero_testBit s, fun k hk => absurd hk (by omega), ?_, ?_⟩
    · rw [s7]
      exact if_pos (by omega)
    · rw [s7]
      exact if_pos (by omega)
  have W2 : ∀ post, wC_X6_readTape_47 post (24 + 2) (nI 0) (cA (bgC cs) (nI ct) (nI s) (nI e) (if ct = 32 then nI nc else cx_r_number cs) (cx_r_code cs) 0 0 0) → wC_X6_readTape cs post := by
    intro post h
    exact bgC_w cs post (hC _ _ _ _ _ _ _ ⟨_, h⟩)
  have V2 : ∀ post, wM_readText_43 post (24 + 2) (mA (bgM ms t) (nI e) (nI s) tk (if ct = 32 then nI nr else ms_number ms) (if tk = 2 then wv else ms_word ms) (upd (ms_texts ms) (705 * t) 0) 0 (ms_pile ms) (ms_piled ms) (ms_opens ms) (ms_isWhole ms)) → wM_readText ms post := by
    intro post h
    exact bgM_w ht et post (hM _ _ _ _ _ _ _ _ _ _ _ ⟨_, h⟩)
  have tx0e : ∀ k, k < 705 * t → upd (ms_texts ms) (705 * t) 0 k = ms_texts ms k := fun k hk => upd_ne _ _ (by omega)
  rcases loop_both ht 24 H ⟨a2, a3, a5, a7, F.2.2.2.2.2.2⟩ hc0 hm0 hI (Nat.zero_le _) rfl with ⟨S2, M2, tx2, C2, cc2, o2, ct2, s2', e2, nc2, nr2, c2, m2', d1, d2, d3, d4, d5, d6, d7, d8, d9⟩ | ⟨f, s2', S2, M2, tx2, c2, m2', d1, d2, d3, d4, d5, d6, d7, d8⟩
  · obtain ⟨nu, cd, x1, x2, x3⟩ := d3
    obtain ⟨tk2, nu2, wd2, tx, pi, pd, op, iw, y1, y2, y3, y4, y5⟩ := d4
    obtain ⟨o1, o2', o3⟩ := cA_out S2 (nI ct2) (nI s2') (nI e2) nu cd (nI C2.length) (nI 0) 0
    rw [← x1] at o1 o2' o3
    have am : ms_a m2' = ms_a ms := by
      rw [y1, mA_a, d2.1, m1]
    have im : ms_image m2' = ms_image ms := by
      rw [y1, mA_image, d2.2.1, m2]
    have tm : ms_texts m2' = tx := by
      rw [y1, mA_texts]
    refine ⟨nI t, _, fnM_yes n4 (fun post hp => V2 post (d9 post hp)) (by rw [am]; exact et), ?_⟩
    intro post hp
    refine W post (W2 _ (d8 _ (fnC_yes (cc := cc2) (k2 := C2.length) (by rw [x1, cA_fault]) d5.2.1 (by rw [x1, cA_clauseCount]; exact d5.1) d6 (by rw [x1, cA_codeLength]) _ ?_)))
    intro ad b1 b2 b3 g1 g2 h1 h2
    refine ⟨(fun y => by cases y), ?_⟩
    intro ad' ead
    cases ead
    obtain ⟨f1, f2, f3, f4, f5, f6, f7⟩ := fnC_f c2 0 (-1)
    obtain ⟨B, eB⟩ : ∃ B : TB, B = (nI cc2, (b1, b2, b3), (4 * cc2, g1), (C2.length, g2), (6, cx_r_bounds c2)) := ⟨_, rfl⟩
    rw [← eB]
    obtain ⟨S9, e9⟩ : ∃ S9 : CS, S9 = cx_set_px (fnC c2 0 (-1)) (cx_px c2 ++ [(ad, B)]) := ⟨_, rfl⟩
    rw [← e9]
    have k1 : S9.1 = cs.1 := by
      rw [e9]
      exact f1.trans (o1.trans (d1.1.trans s1))
    have k2 : S9.2.1 = cs.2.1 := by
      rw [e9]
      exact f2.trans (o2'.trans (d1.2.1.trans s2))
    have k3 : S9.2.2.2.2 = cs.2.2.2.2 ++ [(ad, B)] := by
      rw [e9]
      show cx_px c2 ++ [(ad, B)] = cs.2.2.2.2 ++ [(ad, B)]
      rw [show cx_px c2 = cs.2.2.2.2 from congrArg (fun z => z.2) (o3.trans (d1.2.2.trans s3))]
    have k4 : S9.2.2.1 = (fnC c2 0 (-1)).2.2.1 := by
      rw [e9]
      rfl
    have k5 : cx_c_textCount S9 = nI t := (congrArg cc_textCount k1).trans ecount
    unfold wC_X0_addText
    rw [k5, nI_clamp (by omega)]
    refine p_no (nI_pos (by omega)) (p_yes (nI_lt (b := 4) ht (by decide)) ⟨vp_in_nI ht (by decide), ?_, ?_⟩)
    · intro a ha
      cases ha
      refine ⟨B, ?_⟩
      show (ad, B) ∈ S9.2.2.2.2
      rw [k3]
      exact List.mem_append_right _ (List.mem_singleton.mpr rfl)
    · intro S3 e3 S4 e4
      have k6 : cx_c_textCount S3 = nI t := by
        rw [e3, ← k5]
        simp only [cx_set_c_texts, cx_c_textCount]
      rw [k6, nI_1 t, e3] at e4
      refine hp S4 ?_
      have g0 : S4.1 = (cs.1.1, cs.1.2.1, cs.1.2.2.1, cs.1.2.2.2.1, cs.1.2.2.2.2.1, va_up (cc_texts cs.1) t (some ad), nI (t + 1), cs.1.2.2.2.2.2.2.2) := by
        rw [e4]
        simp only [cx_set_c_texts, cx_set_c_textCount, cx_c_texts, cc_texts, k1]
      have g2' : S4.2 = S9.2 := by
        rw [e4]
        simp only [cx_set_c_texts, cx_set_c_textCount]
      have TRB : TR B (fun k => tx (705 * t + k)) := by
        rw [eB, x1, cA_bounds]
        refine TI_TR d5 d6 x3 y4 y5 ?_ ?_ _
        · intro j hj
          rw [h1 j hj, x1, cA_clauses]
        · intro j hj
          rw [h2 j hj, x1, cA_code]
      have etx : ∀ k, k < 705 * t → tx k = ms_texts ms k := fun k hk => (y5 k (by omega)).trans ((d7 k hk).trans (tx0e k hk))
      obtain ⟨n1, n2, n3, n4', n5, n6⟩ := fnM_f m2' 0 (-1)
      refine ⟨?_, ?_⟩
      · unfold Rel0 RelV
        rw [g0, show S4.2.1 = cs.2.1 by rw [g2', k2], show S4.2.2.1 = (fnC c2 0 (-1)).2.2.1 by rw [g2', k4], show S4.2.2.2.2 = cs.2.2.2.2 ++ [(ad, B)] by rw [g2', k3], f4, f5, f6]
        refine ⟨?_, ?_, ?_, ?_, ?_⟩
        · show RC _ (upd (ms_a m2') 2 (nI (t + 1)))
          rw [am]
          exact RC_text r1 ht et _
        · show RC _ (ms_image (fnM m2' 0 (-1)))
          rw [n2, im]
          exact r2
        · show Top (ms_image (fnM m2' 0 (-1)))
          rw [n2, im]
          exact r3
        · show RX _ (va_up (cc_texts cs.1) t (some ad)) (nI (t + 1)) _ _ (ms_texts (fnM m2' 0 (-1)))
          rw [n3, tm]
          exact RX_new r4 ht etx TRB
        · show RP _ _ _ _ (ms_tape (fnM m2' 0 (-1))) (ms_taped (fnM m2' 0 (-1))) (ms_fault (fnM m2' 0 (-1))) (ms_faultPlace (fnM m2' 0 (-1)))
          rw [n4', n5, n6]
          exact RP_0 _ _ _ _
      · show Top (upd (ms_a m2') 2 (nI (t + 1)))
        rw [am]
        exact Top_text r6 _
  · obtain ⟨pl, nu, cd, cl, op, x1⟩ := d4
    obtain ⟨aa, tk2, nu2, wd2, tx, wr, pi, pd, op2, iw, y1, y5⟩ := d5
    obtain ⟨o1, o2', o3⟩ := cA_out S2 30 (nI s2') pl nu cd cl op (nI f)
    rw [← x1] at o1 o2' o3
    have am : ms_a m2' = ms_a ms := by
      rw [y1, mA_a, d3.1, m1]
    have im : ms_image m2' = ms_image ms := by
      rw [y1, mA_image, d3.2.1, m2]
    have tm : ms_texts m2' = tx := by
      rw [y1, mA_texts]
    have pm : ms_place m2' = nI s2' := by
      rw [y1, mA_place]
    have sc : cx_r_start c2 = nI s2' := by
      rw [x1, cA_start]
    refine ⟨-1, _, fnM_no n4 d1 (fun post hp => V2 post (d8 post hp)), ?_⟩
    intro post hp
    refine W post (W2 _ (d7 _ (fnC_no d1 (by rw [x1, cA_fault]) _ ⟨fun _ => hp _ ?_, (fun a ha => by cases ha)⟩)))
    rw [pm, sc]
    obtain ⟨f1, f2, f3, f4, f5, f6, f7⟩ := fnC_f c2 (nI f) (nI s2')
    obtain ⟨n1, n2, n3, n4', n5, n6⟩ := fnM_f m2' (nI f) (nI s2')
    have etx : ∀ k, k < 705 * t → tx k = ms_texts ms k := fun k hk => (y5 k (by omega)).trans ((d6 k hk).trans (tx0e k hk))
    refine ⟨?_, ?_⟩
    · unfold Rel0 RelV
      rw [f1, f2, f4, f5, f6, show (fnC c2 (nI f) (nI s2')).2.2.2.2 = cs.2.2.2.2 from congrArg (fun z => z.2) (f3.trans (o3.trans (d2.2.2.trans s3))), o1, d2.1, s1, o2', d2.2.1, s2, n1, n2, n3, n4', n5, n6, am, im, tm, ecount]
      exact ⟨r1, r2, r3, RX_ext r4 (by omega) etx, RP_0 _ _ _ _⟩
    · rw [n1, am]
      exact r6
