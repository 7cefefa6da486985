/-! PURE LAYER: the operations of a law's code -/
theorem q_moodOf {S : CS} {a : Nat → Int32} (R : RC S.1 a) (v : Int32) : ∃ r : Int32, bdV r ∧ (∀ post : Int32 → CS → Prop, post r S → wC_X3_moodOf v S post) ∧ (∀ (T : MS) (post : Int64 → MS → Prop), (∀ k, k ≠ 8 → ms_a T k = a k) → post (Int32.toInt64 r) T → wM_moodOf (Int32.toInt64 v) T post) := by
  have hH := bd_houses R
  have eH := rd_houses R
  by_cases c : 0 ≤ v ∧ v < a 0
  · obtain ⟨h, hh, rfl⟩ := p_rng (n := 6) (by decide) c.1 (Int32.lt_of_lt_of_le c.2 hH.2)
    have hb := bd_mood R hh
    refine ⟨a (11 + 6 * h), ⟨Int32.le_trans (by decide) hb.1, Int32.le_trans hb.2 (by decide)⟩, ?_, ?_⟩
    · intro post hp
      unfold wC_X3_moodOf wC_X3_moodOf_25
      rw [p_atL _ (by decide) 72 (by decide), eH, nI_la 6 h, p_at (by decide) _ (show 6 + h < 74 by omega), rd_mood R hh]
      exact p_no (nI_pos (by omega)) (p_no (Int32.not_le.mpr c.2) (p_no (by decide) hp))
    · intro T post e hp
      unfold wM_moodOf
      rw [L_0, L_lt, p_l2, p_l1, m_get_mood hh, e 0 (by omega), e (11 + 6 * h) (by omega)]
      exact p_no (nI_pos (by omega)) (p_no (Int32.not_le.mpr c.2) hp)
  · refine ⟨0, ⟨by decide, by decide⟩, ?_, ?_⟩
    · intro post hp
      unfold wC_X3_moodOf wC_X3_moodOf_25
      rw [p_atL _ (by decide) 72 (by decide), eH]
      refine p_two (fun _ => p_yes rfl hp) (fun n => p_two (fun _ => p_yes rfl hp) (fun m => ?_))
      exact absurd ⟨Int32.not_lt.mp n, Int32.not_le.mp m⟩ c
    · intro T post e hp
      unfold wM_moodOf
      rw [← L_0] at hp
      have z : (0 : Int64) = Int32.toInt64 0 := L_0
      refine p_two (fun _ => hp) (fun n => p_two (fun _ => hp) (fun m => ?_))
      rw [z, L_lt] at n
      rw [e 0 (by omega), p_l2] at m
      exact absurd ⟨Int32.not_lt.mp n, Int32.not_le.mp m⟩ c
theorem op_num {cs : CS} {ms : MS} {ad : Nat} {B : TB} {i stop X3 X4 v : Nat} {st : Nat → Int32} {vs : Nat → Int64} {ts : Nat → Int32} {T : List Bool} (P : SP cs ms ad B i stop X3 X4 0 v) (R : SR st vs ts (T)) (hT : (T).length ≤ 64) (hT2 : T.length < 64) : SQ cs ms ad i stop X3 X4 st vs ts (T) (true :: T) := by
  obtain ⟨p1, p2, p3, p4, p5, p6, p7, p8, p9, p10, p11⟩ := P
  have hnn := nv_nt T
  have e3 : k_at B.2.2.2.1.1 B.2.2.2.1.2 (nI i) = nI (32 + 64 * v) := p3
  obtain ⟨w1, w2⟩ := wd_rem (o := 32) (v := v) (by decide) p11
  have hb : bdV (nI v) := ⟨Int32.le_trans (by decide) (nI_pos' (by omega)), nI_le (b := 1000000) (by omega) (by decide)⟩
  refine ⟨upd st T.length (nI v), vp_updL vs (nv T) (Int32.toInt64 (nI v)), ts, SR_val R hb, ?_, ?_⟩
  · intro post n hq
    rw [wC_X3_worked_18]
    refine p_no (nI_ge p4 p5) ⟨ad, rfl, B, by rw [cs_px]; exact p1, p2, ?_⟩
    rw [e3, w1, nI_1 i, w2]
    refine ⟨fun h => absurd h (by decide), fun h => absurd h (by decide), fun h => absurd h (by decide), fun h => absurd h (by decide), fun _ => ?_, fun h => absurd h (by decide), fun h => absurd h (by decide), fun _ _ _ _ h _ _ => absurd rfl h⟩
    rw [q_push cs st hT2]
    exact hq
  · intro post n hq
    rw [wM_summedUp_38]
    simp only [ms_t1, ms_t2, ms_t3, ms_t4, ms_t6, ms_t7, p_all, nv, nt]
    rw [nI_al 2 X3, nI_lm 2 i, nI_add X4 (2 * i), nI_al 1 (X4 + 2 * i), nI_clamp (show X3 + 2 < 2 ^ 31 by omega), nI_clamp (show X4 + 2 * i < 2 ^ 31 by omega), nI_clamp (show X4 + 2 * i + 1 < 2 ^ 31 by omega), p8, p9, p10, nI_al 1 i]
    refine ⟨vp_in_nI (by omega) (by decide), p_no (nI_ge p4 p5) ⟨vp_in_nI (by omega) (by decide), vp_in_nI (by omega) (by decide), ?_⟩⟩
    refine p_no (by decide) (p_yes (by decide) (?_))
    rw [nI_clamp (show nv T < 2 ^ 31 by omega), nI_al 1 (nv T)]
    exact ⟨vp_in_nI (by omega) (by decide), hq⟩
theorem op_name {cs : CS} {ms : MS} {ad : Nat} {B : TB} {i stop X3 X4 v : Nat} {st : Nat → Int32} {vs : Nat → Int64} {ts : Nat → Int32} {T : List Bool} (hN : v < 12 ∧ cx_l_named cs v = ms_named ms v ∧ bdV (cx_l_named cs v)) (P : SP cs ms ad B i stop X3 X4 1 v) (R : SR st vs ts (T)) (hT : (T).length ≤ 64) (hT2 : T.length < 64) : SQ cs ms ad i stop X3 X4 st vs ts (T) (true :: T) := by
  obtain ⟨p1, p2, p3, p4, p5, p6, p7, p8, p9, p10, p11⟩ := P
  have hnn := nv_nt T
  have e3 : k_at B.2.2.2.1.1 B.2.2.2.1.2 (nI i) = nI (47 + 64 * v) := p3
  obtain ⟨w1, w2⟩ := wd_rem (o := 47) (v := v) (by decide) p11
  obtain ⟨hv, hn, hb⟩ := hN
  refine ⟨upd st T.length (cx_l_named cs v), vp_updL vs (nv T) (Int32.toInt64 (cx_l_named cs v)), ts, SR_val R hb, ?_, ?_⟩
  · intro post n hq
    rw [wC_X3_worked_18]
    refine p_no (nI_ge p4 p5) ⟨ad, rfl, B, by rw [cs_px]; exact p1, p2, ?_⟩
    rw [e3, w1, nI_1 i, w2]
    refine ⟨fun h => absurd h (by decide), fun h => absurd h (by decide), fun h => absurd h (by decide), fun h => absurd h (by decide), fun h => absurd h (by decide), fun h => absurd h (by decide), fun _ => ?_, fun _ _ _ _ _ _ h => absurd rfl h⟩
    rw [cs_named, p_at (by decide) _ hv, q_push cs st hT2]
    exact hq
  · intro post n hq
    rw [wM_summedUp_38]
    simp only [ms_t1, ms_t2, ms_t3, ms_t4, ms_t6, ms_t7, p_all, nv, nt]
    rw [nI_al 2 X3, nI_lm 2 i, nI_add X4 (2 * i), nI_al 1 (X4 + 2 * i), nI_clamp (show X3 + 2 < 2 ^ 31 by omega), nI_clamp (show X4 + 2 * i < 2 ^ 31 by omega), nI_clamp (show X4 + 2 * i + 1 < 2 ^ 31 by omega), p8, p9, p10, nI_al 1 i]
    refine ⟨vp_in_nI (by omega) (by decide), p_no (nI_ge p4 p5) ⟨vp_in_nI (by omega) (by decide), vp_in_nI (by omega) (by decide), ?_⟩⟩
    refine p_no (by decide) (p_no (by decide) (?_))
    rw [nI_clamp (show nv T < 2 ^ 31 by omega), nI_al 1 (nv T), nI_clamp (show v < 2 ^ 31 by omega), ← hn]
    exact ⟨vp_in_nI hv (by decide), vp_in_nI (by omega) (by decide), hq⟩
theorem op_mood {cs : CS} {ms : MS} {ad : Nat} {B : TB} {i stop X3 X4 v : Nat} {st : Nat → Int32} {vs : Nat → Int64} {ts : Nat → Int32} {T : List Bool} {b : Nat → Int32} (hR : RC cs.1 b) (hA : ∀ k, k ≠ 8 → ms_a ms k = b k) (P : SP cs ms ad B i stop X3 X4 2 v) (R : SR st vs ts (true :: T)) (hT : (true :: T).length ≤ 64) : SQ cs ms ad i stop X3 X4 st vs ts (true :: T) (true :: T) := by
  obtain ⟨p1, p2, p3, p4, p5, p6, p7, p8, p9, p10, p11⟩ := P
  have hnn := nv_nt T
  have e3 : k_at B.2.2.2.1.1 B.2.2.2.1.2 (nI i) = nI (22 + 64 * v) := p3
  obtain ⟨w1, w2⟩ := wd_rem (o := 22) (v := v) (by decide) p11
  obtain ⟨r1, r2, r3⟩ := R
  have hT3 : T.length + 1 ≤ 64 := hT
  have RC1 : ∀ h : Int32, RC (csS cs st h).1 b := by
    intro h
    rw [(cs_sC cs st h).1]
    exact hR
  obtain ⟨r, hb, hc, hm⟩ := q_moodOf (RC1 (nI T.length)) (st T.length)
  refine ⟨upd st T.length r, vp_updL vs (nv T) (Int32.toInt64 r), ts, SR_val r3 hb, ?_, ?_⟩
  · intro post n hq
    rw [wC_X3_worked_18]
    refine p_no (nI_ge p4 p5) ⟨ad, rfl, B, by rw [cs_px]; exact p1, p2, ?_⟩
    rw [e3, w1, nI_1 i]
    refine ⟨fun h => absurd h (by decide), fun _ => ?_, fun h => absurd h (by decide), fun h => absurd h (by decide), fun h => absurd h (by decide), fun h => absurd h (by decide), fun h => absurd h (by decide), fun _ h _ _ _ _ _ => absurd rfl h⟩
    show wC_X3_pop (csS cs st (nI (T.length + 1))) _
    rw [q_pop cs st (show T.length < 64 by omega)]
    refine hc _ ?_
    rw [q_push cs st (show T.length < 64 by omega)]
    exact hq
  · intro post n hq
    rw [wM_summedUp_38]
    simp only [ms_t1, ms_t2, ms_t3, ms_t4, ms_t6, ms_t7, p_all, nv, nt]
    rw [nI_al 2 X3, nI_lm 2 i, nI_add X4 (2 * i), nI_al 1 (X4 + 2 * i), nI_clamp (show X3 + 2 < 2 ^ 31 by omega), nI_clamp (show X4 + 2 * i < 2 ^ 31 by omega), nI_clamp (show X4 + 2 * i + 1 < 2 ^ 31 by omega), p8, p9, p10, nI_al 1 i]
    refine ⟨vp_in_nI (by omega) (by decide), p_no (nI_ge p4 p5) ⟨vp_in_nI (by omega) (by decide), vp_in_nI (by omega) (by decide), ?_⟩⟩
    refine p_yes (by decide) (p_no (by decide) (p_no (by decide) (p_no (by decide) (p_no (by decide) (?_)))))
    rw [nI_pred, nI_clamp (show nv T < 2 ^ 31 by omega), r2]
    refine ⟨vp_in_nI (by omega) (by decide), hm _ _ (fun k hk => by rw [ms_t5]; exact hA k hk) ?_⟩
    rw [ms_t2, ms_t6]
    exact ⟨vp_in_nI (by omega) (by decide), hq⟩
theorem op_neg {cs : CS} {ms : MS} {ad : Nat} {B : TB} {i stop X3 X4 v : Nat} {st : Nat → Int32} {vs : Nat → Int64} {ts : Nat → Int32} {T : List Bool} (P : SP cs ms ad B i stop X3 X4 5 v) (R : SR st vs ts (true :: T)) (hT : (true :: T).length ≤ 64) : SQ cs ms ad i stop X3 X4 st vs ts (true :: T) (true :: T) := by
  obtain ⟨p1, p2, p3, p4, p5, p6, p7, p8, p9, p10, p11⟩ := P
  have hnn := nv_nt T
  have e3 : k_at B.2.2.2.1.1 B.2.2.2.1.2 (nI i) = nI (46 + 64 * v) := p3
  obtain ⟨w1, w2⟩ := wd_rem (o := 46) (v := v) (by decide) p11
  obtain ⟨r1, r2, r3⟩ := R
  have hT3 : T.length + 1 ≤ 64 := hT
  obtain ⟨g1, g2⟩ := L_neg r1
  refine ⟨upd st T.length (-(st T.length)), vp_updL vs (nv T) (Int32.toInt64 (-(st T.length))), ts, SR_val r3 g2, ?_, ?_⟩
  · intro post n hq
    rw [wC_X3_worked_18]
    refine p_no (nI_ge p4 p5) ⟨ad, rfl, B, by rw [cs_px]; exact p1, p2, ?_⟩
    rw [e3, w1, nI_1 i]
    refine ⟨fun h => absurd h (by decide), fun h => absurd h (by decide), fun h => absurd h (by decide), fun h => absurd h (by decide), fun h => absurd h (by decide), fun _ => ?_, fun h => absurd h (by decide), fun _ _ _ _ _ h _ => absurd rfl h⟩
    show wC_X3_pop (csS cs st (nI (T.length + 1))) _
    rw [q_pop cs st (show T.length < 64 by omega), q_push cs st (show T.length < 64 by omega)]
    exact hq
  · intro post n hq
    rw [wM_summedUp_38]
    simp only [ms_t1, ms_t2, ms_t3, ms_t4, ms_t6, ms_t7, p_all, nv, nt]
    rw [nI_al 2 X3, nI_lm 2 i, nI_add X4 (2 * i), nI_al 1 (X4 + 2 * i), nI_clamp (show X3 + 2 < 2 ^ 31 by omega), nI_clamp (show X4 + 2 * i < 2 ^ 31 by omega), nI_clamp (show X4 + 2 * i + 1 < 2 ^ 31 by omega), p8, p9, p10, nI_al 1 i]
    refine ⟨vp_in_nI (by omega) (by decide), p_no (nI_ge p4 p5) ⟨vp_in_nI (by omega) (by decide), vp_in_nI (by omega) (by decide), ?_⟩⟩
    refine p_yes (by decide) (p_no (by decide) (p_no (by decide) (p_no (by decide) (p_yes (by decide) (?_)))))
    rw [nI_pred, nI_clamp (show nv T < 2 ^ 31 by omega), r2, g1]
    exact ⟨vp_in_nI (by omega) (by decide), vp_in_nI (by omega) (by decide), hq⟩
theorem op_hold {cs : CS} {ms : MS} {ad : Nat} {B : TB} {i stop X3 X4 v : Nat} {st : Nat → Int32} {vs : Nat → Int64} {ts : Nat → Int32} {T : List Bool} (P : SP cs ms ad B i stop X3 X4 4 v) (R : SR st vs ts (true :: true :: true :: T)) (hT : (true :: true :: true :: T).length ≤ 64) : SQ cs ms ad i stop X3 X4 st vs ts (true :: true :: true :: T) (true :: T) := by
  obtain ⟨p1, p2, p3, p4, p5, p6, p7, p8, p9, p10, p11⟩ := P
  have hnn := nv_nt T
  have e3 : k_at B.2.2.2.1.1 B.2.2.2.1.2 (nI i) = nI (20 + 64 * v) := p3
  obtain ⟨w1, w2⟩ := wd_rem (o := 20) (v := v) (by decide) p11
  obtain ⟨r1, r2, s1, s2, t1, t2, t3⟩ := R
  have hT3 : T.length + 1 + 1 + 1 ≤ 64 := hT
  have r1' : bdV (st (T.length + 1 + 1)) := r1
  have r2' : vs (nv T + 1 + 1) = Int32.toInt64 (st (T.length + 1 + 1)) := r2
  have s1' : bdV (st (T.length + 1)) := s1
  have s2' : vs (nv T + 1) = Int32.toInt64 (st (T.length + 1)) := s2
  have g2 := hldV_bd t1 s1' r1'
  refine ⟨upd st T.length (hldV (st T.length) (st (T.length + 1)) (st (T.length + 1 + 1))), vp_updL vs (nv T) (Int32.toInt64 (hldV (st T.length) (st (T.length + 1)) (st (T.length + 1 + 1)))), ts, SR_val t3 g2, ?_, ?_⟩
  · intro post n hq
    rw [wC_X3_worked_18]
    refine p_no (nI_ge p4 p5) ⟨ad, rfl, B, by rw [cs_px]; exact p1, p2, ?_⟩
    rw [e3, w1, nI_1 i]
    refine ⟨fun _ => ?_, fun h => absurd h (by decide), fun h => absurd h (by decide), fun h => absurd h (by decide), fun h => absurd h (by decide), fun h => absurd h (by decide), fun h => absurd h (by decide), fun h _ _ _ _ _ _ => absurd rfl h⟩
    show wC_X3_pop (csS cs st (nI (T.length + 1 + 1 + 1))) _
    rw [q_pop cs st (show T.length + 1 + 1 < 64 by omega), q_pop cs st (show T.length + 1 < 64 by omega), q_pop cs st (show T.length < 64 by omega), q_held, q_push cs st (show T.length < 64 by omega)]
    exact hq
  · intro post n hq
    rw [wM_summedUp_38]
    simp only [ms_t1, ms_t2, ms_t3, ms_t4, ms_t6, ms_t7, p_all, nv, nt]
    rw [nI_al 2 X3, nI_lm 2 i, nI_add X4 (2 * i), nI_al 1 (X4 + 2 * i), nI_clamp (show X3 + 2 < 2 ^ 31 by omega), nI_clamp (show X4 + 2 * i < 2 ^ 31 by omega), nI_clamp (show X4 + 2 * i + 1 < 2 ^ 31 by omega), p8, p9, p10, nI_al 1 i]
    refine ⟨vp_in_nI (by omega) (by decide), p_no (nI_ge p4 p5) ⟨vp_in_nI (by omega) (by decide), vp_in_nI (by omega) (by decide), ?_⟩⟩
    refine p_yes (by decide) (p_no (by decide) (p_yes (by decide) (?_)))
    rw [nI_m2, nI_pred, nI_1 (nv T + 1), nI_clamp (show nv T < 2 ^ 31 by omega), nI_clamp (show nv T + 1 < 2 ^ 31 by omega), nI_clamp (show nv T + 1 + 1 < 2 ^ 31 by omega), r2', s2', t2, m_heldIn]
    rw [ms_t2, ms_t6]
    exact ⟨vp_in_nI (by omega) (by decide), vp_in_nI (by omega) (by decide), vp_in_nI (by omega) (by decide), vp_in_nI (by omega) (by decide), hq⟩
theorem op_sel {cs : CS} {ms : MS} {ad : Nat} {B : TB} {i stop X3 X4 v : Nat} {st : Nat → Int32} {vs : Nat → Int64} {ts : Nat → Int32} {T : List Bool} (P : SP cs ms ad B i stop X3 X4 3 v) (R : SR st vs ts (true :: true :: false :: T)) (hT : (true :: true :: false :: T).length ≤ 64) : SQ cs ms ad i stop X3 X4 st vs ts (true :: true :: false :: T) (true :: T) := by
  obtain ⟨p1, p2, p3, p4, p5, p6, p7, p8, p9, p10, p11⟩ := P
  have hnn := nv_nt T
  have e3 : k_at B.2.2.2.1.1 B.2.2.2.1.2 (nI i) = nI (23 + 64 * v) := p3
  obtain ⟨w1, w2⟩ := wd_rem (o := 23) (v := v) (by decide) p11
  obtain ⟨r1, r2, s1, s2, t1, t2, t3⟩ := R
  have hT3 : T.length + 1 + 1 + 1 ≤ 64 := hT
  have r1' : bdV (st (T.length + 1 + 1)) := r1
  have r2' : vs (nv T + 1) = Int32.toInt64 (st (T.length + 1 + 1)) := r2
  have s1' : bdV (st (T.length + 1)) := s1
  have s2' : vs (nv T) = Int32.toInt64 (st (T.length + 1)) := s2
  have t2' : ts (nt T) = st T.length := t2
  obtain ⟨x, hx, ex⟩ : ∃ x : Int32, bdV x ∧ ((st T.length = 1 → x = st (T.length + 1)) ∧ (¬ st T.length = 1 → x = st (T.length + 1 + 1))) := by
    by_cases h : st T.length = 1
    · exact ⟨_, s1', fun _ => rfl, fun n => absurd h n⟩
    · exact ⟨_, r1', fun n => absurd n h, fun _ => rfl⟩
  have hvx : ¬ st T.length = 0 → (fun j => vs j) = vp_updL vs (nv T) (Int32.toInt64 x) := by
    intro h
    have h1 : st T.length = 1 := by
      rcases t1 with t | t
      · exact absurd t h
      · exact t
    funext j
    by_cases e : j = nv T
    · rw [e, uL_eq, ex.1 h1]
      exact s2'
    · rw [uL_ne _ _ e]
  refine ⟨upd st T.length x, vp_updL vs (nv T) (Int32.toInt64 x), ts, SR_val t3 hx, ?_, ?_⟩
  · intro post n hq
    rw [wC_X3_worked_18]
    refine p_no (nI_ge p4 p5) ⟨ad, rfl, B, by rw [cs_px]; exact p1, p2, ?_⟩
    rw [e3, w1, nI_1 i]
    refine ⟨fun h => absurd h (by decide), fun h => absurd h (by decide), fun _ => ?_, fun h => absurd h (by decide), fun h => absurd h (by decide), fun h => absurd h (by decide), fun h => absurd h (by decide), fun _ _ h _ _ _ _ => absurd rfl h⟩
    show wC_X3_pop (csS cs st (nI (T.length + 1 + 1 + 1))) _
    rw [q_pop cs st (show T.length + 1 + 1 < 64 by omega), q_pop cs st (show T.length + 1 < 64 by omega), q_pop cs st (show T.length < 64 by omega)]
    refine p_two (fun h => ?_) (fun h => ?_)
    · rw [q_push cs st (show T.length < 64 by omega), ← ex.1 h]
      exact hq
    · rw [q_push cs st (show T.length < 64 by omega), ← ex.2 h]
      exact hq
  · intro post n hq
    rw [wM_summedUp_38]
    simp only [ms_t1, ms_t2, ms_t3, ms_t4, ms_t6, ms_t7, p_all, nv, nt]
    rw [nI_al 2 X3, nI_lm 2 i, nI_add X4 (2 * i), nI_al 1 (X4 + 2 * i), nI_clamp (show X3 + 2 < 2 ^ 31 by omega), nI_clamp (show X4 + 2 * i < 2 ^ 31 by omega), nI_clamp (show X4 + 2 * i + 1 < 2 ^ 31 by omega), p8, p9, p10, nI_al 1 i]
    refine ⟨vp_in_nI (by omega) (by decide), p_no (nI_ge p4 p5) ⟨vp_in_nI (by omega) (by decide), vp_in_nI (by omega) (by decide), ?_⟩⟩
    refine p_yes (by decide) (p_yes (by decide) (?_))
    rw [nI_m1 (nt T), nI_m1 (nv T + 1), nI_pred, nI_clamp (show nt T < 2 ^ 31 by omega), nI_clamp (show nv T < 2 ^ 31 by omega), nI_clamp (show nv T + 1 < 2 ^ 31 by omega), t2', r2']
    refine ⟨vp_in_nI (by omega) (by decide), p_two (fun h => ⟨vp_in_nI (by omega) (by decide), vp_in_nI (by omega) (by decide), ?_⟩) (fun h => ?_)⟩
    · rw [← ex.2 (by rw [h]; decide)]
      exact hq
    · rw [← hvx h] at hq
      exact hq
theorem op_add {cs : CS} {ms : MS} {ad : Nat} {B : TB} {i stop X3 X4 v : Nat} {st : Nat → Int32} {vs : Nat → Int64} {ts : Nat → Int32} {T : List Bool} (P : SP cs ms ad B i stop X3 X4 6 v) (R : SR st vs ts (true :: true :: T)) (hT : (true :: true :: T).length ≤ 64) : SQ cs ms ad i stop X3 X4 st vs ts (true :: true :: T) (true :: T) := by
  obtain ⟨p1, p2, p3, p4, p5, p6, p7, p8, p9, p10, p11⟩ := P
  have hnn := nv_nt T
  have e3 : k_at B.2.2.2.1.1 B.2.2.2.1.2 (nI i) = nI (39 + 64 * v) := p3
  obtain ⟨w1, w2⟩ := wd_rem (o := 39) (v := v) (by decide) p11
  obtain ⟨r1, r2, s1, s2, t3⟩ := R
  have hT3 : T.length + 1 + 1 ≤ 64 := hT
  have r1' : bdV (st (T.length + 1)) := r1
  have r2' : vs (nv T + 1) = Int32.toInt64 (st (T.length + 1)) := r2
  have g2 := (cutV_64 (Int32.toInt64 (st T.length + st (T.length + 1)))).2
  refine ⟨upd st T.length (cutV (Int32.toInt64 (st T.length + st (T.length + 1)))), vp_updL vs (nv T) (Int32.toInt64 (cutV (Int32.toInt64 (st T.length + st (T.length + 1))))), ts, SR_val t3 g2, ?_, ?_⟩
  · intro post n hq
    rw [wC_X3_worked_18]
    refine p_no (nI_ge p4 p5) ⟨ad, rfl, B, by rw [cs_px]; exact p1, p2, ?_⟩
    rw [e3, w1, nI_1 i]
    refine ⟨fun h => absurd h (by decide), fun h => absurd h (by decide), fun h => absurd h (by decide), fun h => absurd h (by decide), fun h => absurd h (by decide), fun h => absurd h (by decide), fun h => absurd h (by decide), fun _ _ _ _ _ _ _ => ?_⟩
    show wC_X3_pop (csS cs st (nI (T.length + 1 + 1))) _
    rw [q_pop cs st (show T.length + 1 < 64 by omega), q_pop cs st (show T.length < 64 by omega)]
    unfold wC_X3_joined
    refine ⟨fun h => absurd h (by decide), fun h => absurd h (by decide), fun _ => ?_, fun h => absurd h (by decide), fun h => absurd h (by decide), fun h => absurd h (by decide), fun _ _ h _ _ _ => absurd rfl h⟩
    rw [q_cut]
    show wC_X3_push _ (csS cs st (nI T.length)) _
    rw [q_push cs st (show T.length < 64 by omega)]
    exact hq
  · intro post n hq
    rw [wM_summedUp_38]
    simp only [ms_t1, ms_t2, ms_t3, ms_t4, ms_t6, ms_t7, p_all, nv, nt]
    rw [nI_al 2 X3, nI_lm 2 i, nI_add X4 (2 * i), nI_al 1 (X4 + 2 * i), nI_clamp (show X3 + 2 < 2 ^ 31 by omega), nI_clamp (show X4 + 2 * i < 2 ^ 31 by omega), nI_clamp (show X4 + 2 * i + 1 < 2 ^ 31 by omega), p8, p9, p10, nI_al 1 i]
    refine ⟨vp_in_nI (by omega) (by decide), p_no (nI_ge p4 p5) ⟨vp_in_nI (by omega) (by decide), vp_in_nI (by omega) (by decide), ?_⟩⟩
    refine p_yes (by decide) (p_no (by decide) (p_no (by decide) (p_yes (by decide) (p_no (by decide) (?_)))))
    rw [nI_m1, nI_pred, nI_clamp (show nv T < 2 ^ 31 by omega), nI_clamp (show nv T + 1 < 2 ^ 31 by omega), r2', s2]
    unfold wM_two
    refine ⟨vp_in_nI (by omega) (by decide), vp_in_nI (by omega) (by decide), ⟨fun _ => ?_, fun h => absurd h (by decide), fun h => absurd h (by decide), fun h => absurd rfl h⟩⟩
    rw [L_add s1 r1', m_clip]
    dsimp only
    rw [ms_t2, ms_t6]
    exact ⟨vp_in_nI (by omega) (by decide), hq⟩
theorem op_sub {cs : CS} {ms : MS} {ad : Nat} {B : TB} {i stop X3 X4 v : Nat} {st : Nat → Int32} {vs : Nat → Int64} {ts : Nat → Int32} {T : List Bool} (P : SP cs ms ad B i stop X3 X4 7 v) (R : SR st vs ts (true :: true :: T)) (hT : (true :: true :: T).length ≤ 64) : SQ cs ms ad i stop X3 X4 st vs ts (true :: true :: T) (true :: T) := by
  obtain ⟨p1, p2, p3, p4, p5, p6, p7, p8, p9, p10, p11⟩ := P
  have hnn := nv_nt T
  have e3 : k_at B.2.2.2.1.1 B.2.2.2.1.2 (nI i) = nI (40 + 64 * v) := p3
  obtain ⟨w1, w2⟩ := wd_rem (o := 40) (v := v) (by decide) p11
  obtain ⟨r1, r2, s1, s2, t3⟩ := R
  have hT3 : T.length + 1 + 1 ≤ 64 := hT
  have r1' : bdV (st (T.length + 1)) := r1
  have r2' : vs (nv T + 1) = Int32.toInt64 (st (T.length + 1)) := r2
  have g2 := (cutV_64 (Int32.toInt64 (st T.length - st (T.length + 1)))).2
  refine ⟨upd st T.length (cutV (Int32.toInt64 (st T.length - st (T.length + 1)))), vp_updL vs (nv T) (Int32.toInt64 (cutV (Int32.toInt64 (st T.length - st (T.length + 1))))), ts, SR_val t3 g2, ?_, ?_⟩
  · intro post n hq
    rw [wC_X3_worked_18]
    refine p_no (nI_ge p4 p5) ⟨ad, rfl, B, by rw [cs_px]; exact p1, p2, ?_⟩
    rw [e3, w1, nI_1 i]
    refine ⟨fun h => absurd h (by decide), fun h => absurd h (by decide), fun h => absurd h (by decide), fun h => absurd h (by decide), fun h => absurd h (by decide), fun h => absurd h (by decide), fun h => absurd h (by decide), fun _ _ _ _ _ _ _ => ?_⟩
    show wC_X3_pop (csS cs st (nI (T.length + 1 + 1))) _
    rw [q_pop cs st (show T.length + 1 < 64 by omega), q_pop cs st (show T.length < 64 by omega)]
    unfold wC_X3_joined
    refine ⟨fun h => absurd h (by decide), fun h => absurd h (by decide), fun h => absurd h (by decide), fun _ => ?_, fun h => absurd h (by decide), fun h => absurd h (by decide), fun _ _ _ h _ _ => absurd rfl h⟩
    rw [q_cut]
    show wC_X3_push _ (csS cs st (nI T.length)) _
    rw [q_push cs st (show T.length < 64 by omega)]
    exact hq
  · intro post n hq
    rw [wM_summedUp_38]
    simp only [ms_t1, ms_t2, ms_t3, ms_t4, ms_t6, ms_t7, p_all, nv, nt]
    rw [nI_al 2 X3, nI_lm 2 i, nI_add X4 (2 * i), nI_al 1 (X4 + 2 * i), nI_clamp (show X3 + 2 < 2 ^ 31 by omega), nI_clamp (show X4 + 2 * i < 2 ^ 31 by omega), nI_clamp (show X4 + 2 * i + 1 < 2 ^ 31 by omega), p8, p9, p10, nI_al 1 i]
    refine ⟨vp_in_nI (by omega) (by decide), p_no (nI_ge p4 p5) ⟨vp_in_nI (by omega) (by decide), vp_in_nI (by omega) (by decide), ?_⟩⟩
    refine p_yes (by decide) (p_no (by decide) (p_no (by decide) (p_yes (by decide) (p_no (by decide) (?_)))))
    rw [nI_m1, nI_pred, nI_clamp (show nv T < 2 ^ 31 by omega), nI_clamp (show nv T + 1 < 2 ^ 31 by omega), r2', s2]
    unfold wM_two
    refine ⟨vp_in_nI (by omega) (by decide), vp_in_nI (by omega) (by decide), ⟨fun h => absurd h (by decide), fun _ => ?_, fun h => absurd h (by decide), fun _ h => absurd rfl h⟩⟩
    rw [L_sub s1 r1', m_clip]
    dsimp only
    rw [ms_t2, ms_t6]
    exact ⟨vp_in_nI (by omega) (by decide), hq⟩
theorem op_mul {cs : CS} {ms : MS} {ad : Nat} {B : TB} {i stop X3 X4 v : Nat} {st : Nat → Int32} {vs : Nat → Int64} {ts : Nat → Int32} {T : List Bool} (P : SP cs ms ad B i stop X3 X4 8 v) (R : SR st vs ts (true :: true :: T)) (hT : (true :: true :: T).length ≤ 64) : SQ cs ms ad i stop X3 X4 st vs ts (true :: true :: T) (true :: T) := by
  obtain ⟨p1, p2, p3, p4, p5, p6, p7, p8, p9, p10, p11⟩ := P
  have hnn := nv_nt T
  have e3 : k_at B.2.2.2.1.1 B.2.2.2.1.2 (nI i) = nI (41 + 64 * v) := p3
  obtain ⟨w1, w2⟩ := wd_rem (o := 41) (v := v) (by decide) p11
  obtain ⟨r1, r2, s1, s2, t3⟩ := R
  have hT3 : T.length + 1 + 1 ≤ 64 := hT
  have r1' : bdV (st (T.length + 1)) := r1
  have r2' : vs (nv T + 1) = Int32.toInt64 (st (T.length + 1)) := r2
  have g2 := (cutV_64 (Int32.toInt64 (st T.length) * Int32.toInt64 (st (T.length + 1)))).2
  refine ⟨upd st T.length (cutV (Int32.toInt64 (st T.length) * Int32.toInt64 (st (T.length + 1)))), vp_updL vs (nv T) (Int32.toInt64 (cutV (Int32.toInt64 (st T.length) * Int32.toInt64 (st (T.length + 1))))), ts, SR_val t3 g2, ?_, ?_⟩
  · intro post n hq
    rw [wC_X3_worked_18]
    refine p_no (nI_ge p4 p5) ⟨ad, rfl, B, by rw [cs_px]; exact p1, p2, ?_⟩
    rw [e3, w1, nI_1 i]
    refine ⟨fun h => absurd h (by decide), fun h => absurd h (by decide), fun h => absurd h (by decide), fun h => absurd h (by decide), fun h => absurd h (by decide), fun h => absurd h (by decide), fun h => absurd h (by decide), fun _ _ _ _ _ _ _ => ?_⟩
    show wC_X3_pop (csS cs st (nI (T.length + 1 + 1))) _
    rw [q_pop cs st (show T.length + 1 < 64 by omega), q_pop cs st (show T.length < 64 by omega)]
    unfold wC_X3_joined
    refine ⟨fun h => absurd h (by decide), fun h => absurd h (by decide), fun h => absurd h (by decide), fun h => absurd h (by decide), fun _ => ?_, fun h => absurd h (by decide), fun _ _ _ _ h _ => absurd rfl h⟩
    rw [q_cut]
    show wC_X3_push _ (csS cs st (nI T.length)) _
    rw [q_push cs st (show T.length < 64 by omega)]
    exact hq
  · intro post n hq
    rw [wM_summedUp_38]
    simp only [ms_t1, ms_t2, ms_t3, ms_t4, ms_t6, ms_t7, p_all, nv, nt]
    rw [nI_al 2 X3, nI_lm 2 i, nI_add X4 (2 * i), nI_al 1 (X4 + 2 * i), nI_clamp (show X3 + 2 < 2 ^ 31 by omega), nI_clamp (show X4 + 2 * i < 2 ^ 31 by omega), nI_clamp (show X4 + 2 * i + 1 < 2 ^ 31 by omega), p8, p9, p10, nI_al 1 i]
    refine ⟨vp_in_nI (by omega) (by decide), p_no (nI_ge p4 p5) ⟨vp_in_nI (by omega) (by decide), vp_in_nI (by omega) (by decide), ?_⟩⟩
    refine p_yes (by decide) (p_no (by decide) (p_no (by decide) (p_yes (by decide) (p_no (by decide) (?_)))))
    rw [nI_m1, nI_pred, nI_clamp (show nv T < 2 ^ 31 by omega), nI_clamp (show nv T + 1 < 2 ^ 31 by omega), r2', s2]
    unfold wM_two
    refine ⟨vp_in_nI (by omega) (by decide), vp_in_nI (by omega) (by decide), ⟨fun h => absurd h (by decide), fun h => absurd h (by decide), fun _ => ?_, fun _ _ h => absurd rfl h⟩⟩
    rw [m_clip]
    dsimp only
    rw [ms_t2, ms_t6]
    exact ⟨vp_in_nI (by omega) (by decide), hq⟩
theorem op_div {cs : CS} {ms : MS} {ad : Nat} {B : TB} {i stop X3 X4 v : Nat} {st : Nat → Int32} {vs : Nat → Int64} {ts : Nat → Int32} {T : List Bool} (P : SP cs ms ad B i stop X3 X4 9 v) (R : SR st vs ts (true :: true :: T)) (hT : (true :: true :: T).length ≤ 64) : SQ cs ms ad i stop X3 X4 st vs ts (true :: true :: T) (true :: T) := by
  obtain ⟨p1, p2, p3, p4, p5, p6, p7, p8, p9, p10, p11⟩ := P
  have hnn := nv_nt T
  have e3 : k_at B.2.2.2.1.1 B.2.2.2.1.2 (nI i) = nI (42 + 64 * v) := p3
  obtain ⟨w1, w2⟩ := wd_rem (o := 42) (v := v) (by decide) p11
  obtain ⟨r1, r2, s1, s2, t3⟩ := R
  have hT3 : T.length + 1 + 1 ≤ 64 := hT
  have r1' : bdV (st (T.length + 1)) := r1
  have r2' : vs (nv T + 1) = Int32.toInt64 (st (T.length + 1)) := r2
  obtain ⟨x, hx, ex⟩ : ∃ x : Int32, bdV x ∧ ((st (T.length + 1) = 0 → x = 0) ∧ (¬ st (T.length + 1) = 0 → x = st T.length / st (T.length + 1))) := by
    by_cases h : st (T.length + 1) = 0
    · exact ⟨0, ⟨by decide, by decide⟩, fun _ => rfl, fun n => absurd h n⟩
    · exact ⟨_, (L_div s1 r1').2, fun n => absurd n h, fun _ => rfl⟩
  refine ⟨upd st T.length x, vp_updL vs (nv T) (Int32.toInt64 x), ts, SR_val t3 hx, ?_, ?_⟩
  · intro post n hq
    rw [wC_X3_worked_18]
    refine p_no (nI_ge p4 p5) ⟨ad, rfl, B, by rw [cs_px]; exact p1, p2, ?_⟩
    rw [e3, w1, nI_1 i]
    refine ⟨fun h => absurd h (by decide), fun h => absurd h (by decide), fun h => absurd h (by decide), fun h => absurd h (by decide), fun h => absurd h (by decide), fun h => absurd h (by decide), fun h => absurd h (by decide), fun _ _ _ _ _ _ _ => ?_⟩
    show wC_X3_pop (csS cs st (nI (T.length + 1 + 1))) _
    rw [q_pop cs st (show T.length + 1 < 64 by omega), q_pop cs st (show T.length < 64 by omega)]
    unfold wC_X3_joined
    refine ⟨fun h => absurd h (by decide), fun h => absurd h (by decide), fun h => absurd h (by decide), fun h => absurd h (by decide), fun h => absurd h (by decide), fun _ => ?_, fun _ _ _ _ _ h => absurd rfl h⟩
    refine p_two (fun h => ?_) (fun h => ⟨h, ?_⟩)
    · dsimp only
      rw [q_push cs st (show T.length < 64 by omega), ← ex.1 h]
      exact hq
    · dsimp only
      rw [q_push cs st (show T.length < 64 by omega), ← ex.2 h]
      exact hq
  · intro post n hq
    rw [wM_summedUp_38]
    simp only [ms_t1, ms_t2, ms_t3, ms_t4, ms_t6, ms_t7, p_all, nv, nt]
    rw [nI_al 2 X3, nI_lm 2 i, nI_add X4 (2 * i), nI_al 1 (X4 + 2 * i), nI_clamp (show X3 + 2 < 2 ^ 31 by omega), nI_clamp (show X4 + 2 * i < 2 ^ 31 by omega), nI_clamp (show X4 + 2 * i + 1 < 2 ^ 31 by omega), p8, p9, p10, nI_al 1 i]
    refine ⟨vp_in_nI (by omega) (by decide), p_no (nI_ge p4 p5) ⟨vp_in_nI (by omega) (by decide), vp_in_nI (by omega) (by decide), ?_⟩⟩
    refine p_yes (by decide) (p_no (by decide) (p_no (by decide) (p_yes (by decide) (p_no (by decide) (?_)))))
    rw [nI_m1, nI_pred, nI_clamp (show nv T < 2 ^ 31 by omega), nI_clamp (show nv T + 1 < 2 ^ 31 by omega), r2', s2]
    unfold wM_two
    refine ⟨vp_in_nI (by omega) (by decide), vp_in_nI (by omega) (by decide), fun h => absurd h (by decide), fun h => absurd h (by decide), fun h => absurd h (by decide), fun _ _ _ => ?_⟩
    have z : (Int32.toInt64 (st (T.length + 1)) = 0) = (st (T.length + 1) = 0) := by
      rw [L_0, L_eq]
    rw [z]
    refine p_two (fun h => ?_) (fun h => ⟨h, ?_⟩)
    · dsimp only
      rw [ms_t2, ms_t6, L_0, ← ex.1 h]
      exact ⟨vp_in_nI (by omega) (by decide), hq⟩
    · rw [(L_div s1 r1').1, m_clip, cut_id (L_div s1 r1').2]
      dsimp only
      rw [ms_t2, ms_t6, ← ex.2 h]
      exact ⟨vp_in_nI (by omega) (by decide), hq⟩
theorem op_lt {cs : CS} {ms : MS} {ad : Nat} {B : TB} {i stop X3 X4 v : Nat} {st : Nat → Int32} {vs : Nat → Int64} {ts : Nat → Int32} {T : List Bool} (P : SP cs ms ad B i stop X3 X4 10 v) (R : SR st vs ts (true :: true :: T)) (hT : (true :: true :: T).length ≤ 64) : SQ cs ms ad i stop X3 X4 st vs ts (true :: true :: T) (false :: T) := by
  obtain ⟨p1, p2, p3, p4, p5, p6, p7, p8, p9, p10, p11⟩ := P
  have hnn := nv_nt T
  have e3 : k_at B.2.2.2.1.1 B.2.2.2.1.2 (nI i) = nI (35 + 64 * v) := p3
  obtain ⟨w1, w2⟩ := wd_rem (o := 35) (v := v) (by decide) p11
  obtain ⟨r1, r2, s1, s2, t3⟩ := R
  have hT3 : T.length + 1 + 1 ≤ 64 := hT
  have r1' : bdV (st (T.length + 1)) := r1
  have r2' : vs (nv T + 1) = Int32.toInt64 (st (T.length + 1)) := r2
  obtain ⟨x, hx, ex⟩ : ∃ x : Int32, (x = 0 ∨ x = 1) ∧ ((st T.length < st (T.length + 1) → x = 1) ∧ (¬ (st T.length < st (T.length + 1)) → x = 0)) := by
    by_cases h : st T.length < st (T.length + 1)
    · exact ⟨1, Or.inr rfl, fun _ => rfl, fun n => absurd h n⟩
    · exact ⟨0, Or.inl rfl, fun n => absurd n h, fun _ => rfl⟩
  refine ⟨upd st T.length x, vs, upd ts (nt T) x, SR_tru t3 hx, ?_, ?_⟩
  · intro post n hq
    rw [wC_X3_worked_18]
    refine p_no (nI_ge p4 p5) ⟨ad, rfl, B, by rw [cs_px]; exact p1, p2, ?_⟩
    rw [e3, w1, nI_1 i]
    refine ⟨fun h => absurd h (by decide), fun h => absurd h (by decide), fun h => absurd h (by decide), fun h => absurd h (by decide), fun h => absurd h (by decide), fun h => absurd h (by decide), fun h => absurd h (by decide), fun _ _ _ _ _ _ _ => ?_⟩
    show wC_X3_pop (csS cs st (nI (T.length + 1 + 1))) _
    rw [q_pop cs st (show T.length + 1 < 64 by omega), q_pop cs st (show T.length < 64 by omega)]
    unfold wC_X3_joined wC_X3_compares
    refine ⟨fun h => absurd h (by decide), fun h => absurd h (by decide), fun h => absurd h (by decide), fun h => absurd h (by decide), fun h => absurd h (by decide), fun h => absurd h (by decide), fun _ _ _ _ _ _ => ?_⟩
    refine ⟨fun h => absurd h (by decide), fun h => absurd h (by decide), fun _ => ?_, fun h => absurd h (by decide), fun h => absurd h (by decide), fun _ _ h _ _ => absurd rfl h⟩
    by_cases h : st T.length < st (T.length + 1)
    · refine p_no (Int32.not_le.mpr h) (p_no (by decide) ?_)
      dsimp only
      rw [q_push cs st (show T.length < 64 by omega), ← ex.1 h]
      exact hq
    · refine p_yes (Int32.not_lt.mp h) (p_yes rfl ?_)
      dsimp only
      rw [q_push cs st (show T.length < 64 by omega), ← ex.2 h]
      exact hq
  · intro post n hq
    rw [wM_summedUp_38]
    simp only [ms_t1, ms_t2, ms_t3, ms_t4, ms_t6, ms_t7, p_all, nv, nt]
    rw [nI_al 2 X3, nI_lm 2 i, nI_add X4 (2 * i), nI_al 1 (X4 + 2 * i), nI_clamp (show X3 + 2 < 2 ^ 31 by omega), nI_clamp (show X4 + 2 * i < 2 ^ 31 by omega), nI_clamp (show X4 + 2 * i + 1 < 2 ^ 31 by omega), p8, p9, p10, nI_al 1 i]
    refine ⟨vp_in_nI (by omega) (by decide), p_no (nI_ge p4 p5) ⟨vp_in_nI (by omega) (by decide), vp_in_nI (by omega) (by decide), ?_⟩⟩
    refine p_yes (by decide) (p_no (by decide) (p_no (by decide) (p_yes (by decide) (p_yes (by decide) (p_no (by decide) (?_))))))
    rw [nI_m2, nI_1 (nv T), nI_clamp (show nv T < 2 ^ 31 by omega), nI_clamp (show nv T + 1 < 2 ^ 31 by omega), r2', s2, nI_clamp (show nt T < 2 ^ 31 by omega), nI_1 (nt T)]
    unfold wM_isAsked
    refine ⟨vp_in_nI (by omega) (by decide), vp_in_nI (by omega) (by decide), p_yes rfl ?_⟩
    simp only [p_l2, L_lt, L_eq, ms_t3, ms_t7, nar0, nar1]
    by_cases h : st T.length < st (T.length + 1)
    · refine p_no (Int32.not_le.mpr h) ⟨vp_in_nI (by omega) (by decide), ?_⟩
      rw [ex.1 h] at hq
      exact hq
    · refine p_yes (Int32.not_lt.mp h) ⟨vp_in_nI (by omega) (by decide), ?_⟩
      rw [ex.2 h] at hq
      exact hq
theorem op_le {cs : CS} {ms : MS} {ad : Nat} {B : TB} {i stop X3 X4 v : Nat} {st : Nat → Int32} {vs : Nat → Int64} {ts : Nat → Int32} {T : List Bool} (P : SP cs ms ad B i stop X3 X4 11 v) (R : SR st vs ts (true :: true :: T)) (hT : (true :: true :: T).length ≤ 64) : SQ cs ms ad i stop X3 X4 st vs ts (true :: true :: T) (false :: T) := by
  obtain ⟨p1, p2, p3, p4, p5, p6, p7, p8, p9, p10, p11⟩ := P
  have hnn := nv_nt T
  have e3 : k_at B.2.2.2.1.1 B.2.2.2.1.2 (nI i) = nI (33 + 64 * v) := p3
  obtain ⟨w1, w2⟩ := wd_rem (o := 33) (v := v) (by decide) p11
  obtain ⟨r1, r2, s1, s2, t3⟩ := R
  have hT3 : T.length + 1 + 1 ≤ 64 := hT
  have r1' : bdV (st (T.length + 1)) := r1
  have r2' : vs (nv T + 1) = Int32.toInt64 (st (T.length + 1)) := r2
  obtain ⟨x, hx, ex⟩ : ∃ x : Int32, (x = 0 ∨ x = 1) ∧ ((st T.length ≤ st (T.length + 1) → x = 1) ∧ (¬ (st T.length ≤ st (T.length + 1)) → x = 0)) := by
    by_cases h : st T.length ≤ st (T.length + 1)
    · exact ⟨1, Or.inr rfl, fun _ => rfl, fun n => absurd h n⟩
    · exact ⟨0, Or.inl rfl, fun n => absurd n h, fun _ => rfl⟩
  refine ⟨upd st T.length x, vs, upd ts (nt T) x, SR_tru t3 hx, ?_, ?_⟩
  · intro post n hq
    rw [wC_X3_worked_18]
    refine p_no (nI_ge p4 p5) ⟨ad, rfl, B, by rw [cs_px]; exact p1, p2, ?_⟩
    rw [e3, w1, nI_1 i]
    refine ⟨fun h => absurd h (by decide), fun h => absurd h (by decide), fun h => absurd h (by decide), fun h => absurd h (by decide), fun h => absurd h (by decide), fun h => absurd h (by decide), fun h => absurd h (by decide), fun _ _ _ _ _ _ _ => ?_⟩
    show wC_X3_pop (csS cs st (nI (T.length + 1 + 1))) _
    rw [q_pop cs st (show T.length + 1 < 64 by omega), q_pop cs st (show T.length < 64 by omega)]
    unfold wC_X3_joined wC_X3_compares
    refine ⟨fun h => absurd h (by decide), fun h => absurd h (by decide), fun h => absurd h (by decide), fun h => absurd h (by decide), fun h => absurd h (by decide), fun h => absurd h (by decide), fun _ _ _ _ _ _ => ?_⟩
    refine ⟨fun _ => ?_, fun h => absurd h (by decide), fun h => absurd h (by decide), fun h => absurd h (by decide), fun h => absurd h (by decide), fun h _ _ _ _ => absurd rfl h⟩
    by_cases h : st T.length ≤ st (T.length + 1)
    · refine p_no (Int32.not_lt.mpr h) (p_no (by decide) ?_)
      dsimp only
      rw [q_push cs st (show T.length < 64 by omega), ← ex.1 h]
      exact hq
    · refine p_yes (Int32.not_le.mp h) (p_yes rfl ?_)
      dsimp only
      rw [q_push cs st (show T.length < 64 by omega), ← ex.2 h]
      exact hq
  · intro post n hq
    rw [wM_summedUp_38]
    simp only [ms_t1, ms_t2, ms_t3, ms_t4, ms_t6, ms_t7, p_all, nv, nt]
    rw [nI_al 2 X3, nI_lm 2 i, nI_add X4 (2 * i), nI_al 1 (X4 + 2 * i), nI_clamp (show X3 + 2 < 2 ^ 31 by omega), nI_clamp (show X4 + 2 * i < 2 ^ 31 by omega), nI_clamp (show X4 + 2 * i + 1 < 2 ^ 31 by omega), p8, p9, p10, nI_al 1 i]
    refine ⟨vp_in_nI (by omega) (by decide), p_no (nI_ge p4 p5) ⟨vp_in_nI (by omega) (by decide), vp_in_nI (by omega) (by decide), ?_⟩⟩
    refine p_yes (by decide) (p_no (by decide) (p_no (by decide) (p_yes (by decide) (p_yes (by decide) (p_no (by decide) (?_))))))
    rw [nI_m2, nI_1 (nv T), nI_clamp (show nv T < 2 ^ 31 by omega), nI_clamp (show nv T + 1 < 2 ^ 31 by omega), r2', s2, nI_clamp (show nt T < 2 ^ 31 by omega), nI_1 (nt T)]
    unfold wM_isAsked
    refine ⟨vp_in_nI (by omega) (by decide), vp_in_nI (by omega) (by decide), p_no (by decide) (p_yes rfl ?_)⟩
    simp only [p_l2, L_lt, L_eq, ms_t3, ms_t7, nar0, nar1]
    by_cases h : st T.length ≤ st (T.length + 1)
    · refine p_no (Int32.not_lt.mpr h) ⟨vp_in_nI (by omega) (by decide), ?_⟩
      rw [ex.1 h] at hq
      exact hq
    · refine p_yes (Int32.not_le.mp h) ⟨vp_in_nI (by omega) (by decide), ?_⟩
      rw [ex.2 h] at hq
      exact hq
theorem op_gt {cs : CS} {ms : MS} {ad : Nat} {B : TB} {i stop X3 X4 v : Nat} {st : Nat → Int32} {vs : Nat → Int64} {ts : Nat → Int32} {T : List Bool} (P : SP cs ms ad B i stop X3 X4 12 v) (R : SR st vs ts (true :: true :: T)) (hT : (true :: true :: T).length ≤ 64) : SQ cs ms ad i stop X3 X4 st vs ts (true :: true :: T) (false :: T) := by
  obtain ⟨p1, p2, p3, p4, p5, p6, p7, p8, p9, p10, p11⟩ := P
  have hnn := nv_nt T
  have e3 : k_at B.2.2.2.1.1 B.2.2.2.1.2 (nI i) = nI (36 + 64 * v) := p3
  obtain ⟨w1, w2⟩ := wd_rem (o := 36) (v := v) (by decide) p11
  obtain ⟨r1, r2, s1, s2, t3⟩ := R
  have hT3 : T.length + 1 + 1 ≤ 64 := hT
  have r1' : bdV (st (T.length + 1)) := r1
  have r2' : vs (nv T + 1) = Int32.toInt64 (st (T.length + 1)) := r2
  obtain ⟨x, hx, ex⟩ : ∃ x : Int32, (x = 0 ∨ x = 1) ∧ ((st (T.length + 1) < st T.length → x = 1) ∧ (¬ (st (T.length + 1) < st T.length) → x = 0)) := by
    by_cases h : st (T.length + 1) < st T.length
    · exact ⟨1, Or.inr rfl, fun _ => rfl, fun n => absurd h n⟩
    · exact ⟨0, Or.inl rfl, fun n => absurd n h, fun _ => rfl⟩
  refine ⟨upd st T.length x, vs, upd ts (nt T) x, SR_tru t3 hx, ?_, ?_⟩
  · intro post n hq
    rw [wC_X3_worked_18]
    refine p_no (nI_ge p4 p5) ⟨ad, rfl, B, by rw [cs_px]; exact p1, p2, ?_⟩
    rw [e3, w1, nI_1 i]
    refine ⟨fun h => absurd h (by decide), fun h => absurd h (by decide), fun h => absurd h (by decide), fun h => absurd h (by decide), fun h => absurd h (by decide), fun h => absurd h (by decide), fun h => absurd h (by decide), fun _ _ _ _ _ _ _ => ?_⟩
    show wC_X3_pop (csS cs st (nI (T.length + 1 + 1))) _
    rw [q_pop cs st (show T.length + 1 < 64 by omega), q_pop cs st (show T.length < 64 by omega)]
    unfold wC_X3_joined wC_X3_compares
    refine ⟨fun h => absurd h (by decide), fun h => absurd h (by decide), fun h => absurd h (by decide), fun h => absurd h (by decide), fun h => absurd h (by decide), fun h => absurd h (by decide), fun _ _ _ _ _ _ => ?_⟩
    refine ⟨fun h => absurd h (by decide), fun h => absurd h (by decide), fun h => absurd h (by decide), fun _ => ?_, fun h => absurd h (by decide), fun _ _ _ h _ => absurd rfl h⟩
    by_cases h : st (T.length + 1) < st T.length
    · refine p_no (Int32.not_le.mpr h) (p_no (by decide) ?_)
      dsimp only
      rw [q_push cs st (show T.length < 64 by omega), ← ex.1 h]
      exact hq
    · refine p_yes (Int32.not_lt.mp h) (p_yes rfl ?_)
      dsimp only
      rw [q_push cs st (show T.length < 64 by omega), ← ex.2 h]
      exact hq
  · intro post n hq
    rw [wM_summedUp_38]
    simp only [ms_t1, ms_t2, ms_t3, ms_t4, ms_t6, ms_t7, p_all, nv, nt]
    rw [nI_al 2 X3, nI_lm 2 i, nI_add X4 (2 * i), nI_al 1 (X4 + 2 * i), nI_clamp (show X3 + 2 < 2 ^ 31 by omega), nI_clamp (show X4 + 2 * i < 2 ^ 31 by omega), nI_clamp (show X4 + 2 * i + 1 < 2 ^ 31 by omega), p8, p9, p10, nI_al 1 i]
    refine ⟨vp_in_nI (by omega) (by decide), p_no (nI_ge p4 p5) ⟨vp_in_nI (by omega) (by decide), vp_in_nI (by omega) (by decide), ?_⟩⟩
    refine p_yes (by decide) (p_no (by decide) (p_no (by decide) (p_yes (by decide) (p_yes (by decide) (p_no (by decide) (?_))))))
    rw [nI_m2, nI_1 (nv T), nI_clamp (show nv T < 2 ^ 31 by omega), nI_clamp (show nv T + 1 < 2 ^ 31 by omega), r2', s2, nI_clamp (show nt T < 2 ^ 31 by omega), nI_1 (nt T)]
    unfold wM_isAsked
    refine ⟨vp_in_nI (by omega) (by decide), vp_in_nI (by omega) (by decide), p_no (by decide) (p_no (by decide) (p_yes rfl ?_))⟩
    simp only [p_l2, L_lt, L_eq, ms_t3, ms_t7, nar0, nar1]
    by_cases h : st (T.length + 1) < st T.length
    · refine p_no (Int32.not_le.mpr h) ⟨vp_in_nI (by omega) (by decide), ?_⟩
      rw [ex.1 h] at hq
      exact hq
    · refine p_yes (Int32.not_lt.mp h) ⟨vp_in_nI (by omega) (by decide), ?_⟩
      rw [ex.2 h] at hq
      exact hq
theorem op_ge {cs : CS} {ms : MS} {ad : Nat} {B : TB} {i stop X3 X4 v : Nat} {st : Nat → Int32} {vs : Nat → Int64} {ts : Nat → Int32} {T : List Bool} (P : SP cs ms ad B i stop X3 X4 13 v) (R : SR st vs ts (true :: true :: T)) (hT : (true :: true :: T).length ≤ 64) : SQ cs ms ad i stop X3 X4 st vs ts (true :: true :: T) (false :: T) := by
  obtain ⟨p1, p2, p3, p4, p5, p6, p7, p8, p9, p10, p11⟩ := P
  have hnn := nv_nt T
  have e3 : k_at B.2.2.2.1.1 B.2.2.2.1.2 (nI i) = nI (34 + 64 * v) := p3
  obtain ⟨w1, w2⟩ := wd_rem (o := 34) (v := v) (by decide) p11
  obtain ⟨r1, r2, s1, s2, t3⟩ := R
  have hT3 : T.length + 1 + 1 ≤ 64 := hT
  have r1' : bdV (st (T.length + 1)) := r1
  have r2' : vs (nv T + 1) = Int32.toInt64 (st (T.length + 1)) := r2
  obtain ⟨x, hx, ex⟩ : ∃ x : Int32, (x = 0 ∨ x = 1) ∧ ((st (T.length + 1) ≤ st T.length → x = 1) ∧ (¬ (st (T.length + 1) ≤ st T.length) → x = 0)) := by
    by_cases h : st (T.length + 1) ≤ st T.length
    · exact ⟨1, Or.inr rfl, fun _ => rfl, fun n => absurd h n⟩
    · exact ⟨0, Or.inl rfl, fun n => absurd n h, fun _ => rfl⟩
  refine ⟨upd st T.length x, vs, upd ts (nt T) x, SR_tru t3 hx, ?_, ?_⟩
  · intro post n hq
    rw [wC_X3_worked_18]
    refine p_no (nI_ge p4 p5) ⟨ad, rfl, B, by rw [cs_px]; exact p1, p2, ?_⟩
    rw [e3, w1, nI_1 i]
    refine ⟨fun h => absurd h (by decide), fun h => absurd h (by decide), fun h => absurd h (by decide), fun h => absurd h (by decide), fun h => absurd h (by decide), fun h => absurd h (by decide), fun h => absurd h (by decide), fun _ _ _ _ _ _ _ => ?_⟩
    show wC_X3_pop (csS cs st (nI (T.length + 1 + 1))) _
    rw [q_pop cs st (show T.length + 1 < 64 by omega), q_pop cs st (show T.length < 64 by omega)]
    unfold wC_X3_joined wC_X3_compares
    refine ⟨fun h => absurd h (by decide), fun h => absurd h (by decide), fun h => absurd h (by decide), fun h => absurd h (by decide), fun h => absurd h (by decide), fun h => absurd h (by decide), fun _ _ _ _ _ _ => ?_⟩
    refine ⟨fun h => absurd h (by decide), fun _ => ?_, fun h => absurd h (by decide), fun h => absurd h (by decide), fun h => absurd h (by decide), fun _ h _ _ _ => absurd rfl h⟩
    by_cases h : st (T.length + 1) ≤ st T.length
    · refine p_no (Int32.not_lt.mpr h) (p_no (by decide) ?_)
      dsimp only
      rw [q_push cs st (show T.length < 64 by omega), ← ex.1 h]
      exact hq
    · refine p_yes (Int32.not_le.mp h) (p_yes rfl ?_)
      dsimp only
      rw [q_push cs st (show T.length < 64 by omega), ← ex.2 h]
      exact hq
  · intro post n hq
    rw [wM_summedUp_38]
    simp only [ms_t1, ms_t2, ms_t3, ms_t4, ms_t6, ms_t7, p_all, nv, nt]
    rw [nI_al 2 X3, nI_lm 2 i, nI_add X4 (2 * i), nI_al 1 (X4 + 2 * i), nI_clamp (show X3 + 2 < 2 ^ 31 by omega), nI_clamp (show X4 + 2 * i < 2 ^ 31 by omega), nI_clamp (show X4 + 2 * i + 1 < 2 ^ 31 by omega), p8, p9, p10, nI_al 1 i]
    refine ⟨vp_in_nI (by omega) (by decide), p_no (nI_ge p4 p5) ⟨vp_in_nI (by omega) (by decide), vp_in_nI (by omega) (by decide), ?_⟩⟩
    refine p_yes (by decide) (p_no (by decide) (p_no (by decide) (p_yes (by decide) (p_yes (by decide) (p_no (by decide) (?_))))))
    rw [nI_m2, nI_1 (nv T), nI_clamp (show nv T < 2 ^ 31 by omega), nI_clamp (show nv T + 1 < 2 ^ 31 by omega), r2', s2, nI_clamp (show nt T < 2 ^ 31 by omega), nI_1 (nt T)]
    unfold wM_isAsked
    refine ⟨vp_in_nI (by omega) (by decide), vp_in_nI (by omega) (by decide), p_no (by decide) (p_no (by decide) (p_no (by decide) (p_yes rfl ?_)))⟩
    simp only [p_l2, L_lt, L_eq, ms_t3, ms_t7, nar0, nar1]
    by_cases h : st (T.length + 1) ≤ st T.length
    · refine p_no (Int32.not_lt.mpr h) ⟨vp_in_nI (by omega) (by decide), ?_⟩
      rw [ex.1 h] at hq
      exact hq
    · refine p_yes (Int32.not_le.mp h) ⟨vp_in_nI (by omega) (by decide), ?_⟩
      rw [ex.2 h] at hq
      exact hq
theorem op_eq {cs : CS} {ms : MS} {ad : Nat} {B : TB} {i stop X3 X4 v : Nat} {st : Nat → Int32} {vs : Nat → Int64} {ts : Nat → Int32} {T : List Bool} (P : SP cs ms ad B i stop X3 X4 14 v) (R : SR st vs ts (true :: true :: T)) (hT : (true :: true :: T).length ≤ 64) : SQ cs ms ad i stop X3 X4 st vs ts (true :: true :: T) (false :: T) := by
  obtain ⟨p1, p2, p3, p4, p5, p6, p7, p8, p9, p10, p11⟩ := P
  have hnn := nv_nt T
  have e3 : k_at B.2.2.2.1.1 B.2.2.2.1.2 (nI i) = nI (37 + 64 * v) := p3
  obtain ⟨w1, w2⟩ := wd_rem (o := 37) (v := v) (by decide) p11
  obtain ⟨r1, r2, s1, s2, t3⟩ := R
  have hT3 : T.length + 1 + 1 ≤ 64 := hT
  have r1' : bdV (st (T.length + 1)) := r1
  have r2' : vs (nv T + 1) = Int32.toInt64 (st (T.length + 1)) := r2
  obtain ⟨x, hx, ex⟩ : ∃ x : Int32, (x = 0 ∨ x = 1) ∧ ((st T.length = st (T.length + 1) → x = 1) ∧ (¬ (st T.length = st (T.length + 1)) → x = 0)) := by
    by_cases h : st T.length = st (T.length + 1)
    · exact ⟨1, Or.inr rfl, fun _ => rfl, fun n => absurd h n⟩
    · exact ⟨0, Or.inl rfl, fun n => absurd n h, fun _ => rfl⟩
  refine ⟨upd st T.length x, vs, upd ts (nt T) x, SR_tru t3 hx, ?_, ?_⟩
  · intro post n hq
    rw [wC_X3_worked_18]
    refine p_no (nI_ge p4 p5) ⟨ad, rfl, B, by rw [cs_px]; exact p1, p2, ?_⟩
    rw [e3, w1, nI_1 i]
    refine ⟨fun h => absurd h (by decide), fun h => absurd h (by decide), fun h => absurd h (by decide), fun h => absurd h (by decide), fun h => absurd h (by decide), fun h => absurd h (by decide), fun h => absurd h (by decide), fun _ _ _ _ _ _ _ => ?_⟩
    show wC_X3_pop (csS cs st (nI (T.length + 1 + 1))) _
    rw [q_pop cs st (show T.length + 1 < 64 by omega), q_pop cs st (show T.length < 64 by omega)]
    unfold wC_X3_joined wC_X3_compares
    refine ⟨fun h => absurd h (by decide), fun h => absurd h (by decide), fun h => absurd h (by decide), fun h => absurd h (by decide), fun h => absurd h (by decide), fun h => absurd h (by decide), fun _ _ _ _ _ _ => ?_⟩
    refine ⟨fun h => absurd h (by decide), fun h => absurd h (by decide), fun h => absurd h (by decide), fun h => absurd h (by decide), fun _ => ?_, fun _ _ _ _ h => absurd rfl h⟩
    by_cases h : st T.length = st (T.length + 1)
    · refine p_yes h (p_no (by decide) ?_)
      dsimp only
      rw [q_push cs st (show T.length < 64 by omega), ← ex.1 h]
      exact hq
    · refine p_no h (p_yes rfl ?_)
      dsimp only
      rw [q_push cs st (show T.length < 64 by omega), ← ex.2 h]
      exact hq
  · intro post n hq
    rw [wM_summedUp_38]
    simp only [ms_t1, ms_t2, ms_t3, ms_t4, ms_t6, ms_t7, p_all, nv, nt]
    rw [nI_al 2 X3, nI_lm 2 i, nI_add X4 (2 * i), nI_al 1 (X4 + 2 * i), nI_clamp (show X3 + 2 < 2 ^ 31 by omega), nI_clamp (show X4 + 2 * i < 2 ^ 31 by omega), nI_clamp (show X4 + 2 * i + 1 < 2 ^ 31 by omega), p8, p9, p10, nI_al 1 i]
    refine ⟨vp_in_nI (by omega) (by decide), p_no (nI_ge p4 p5) ⟨vp_in_nI (by omega) (by decide), vp_in_nI (by omega) (by decide), ?_⟩⟩
    refine p_yes (by decide) (p_no (by decide) (p_no (by decide) (p_yes (by decide) (p_yes (by decide) (p_no (by decide) (?_))))))
    rw [nI_m2, nI_1 (nv T), nI_clamp (show nv T < 2 ^ 31 by omega), nI_clamp (show nv T + 1 < 2 ^ 31 by omega), r2', s2, nI_clamp (show nt T < 2 ^ 31 by omega), nI_1 (nt T)]
    unfold wM_isAsked
    refine ⟨vp_in_nI (by omega) (by decide), vp_in_nI (by omega) (by decide), p_no (by decide) (p_no (by decide) (p_no (by decide) (p_no (by decide) (p_yes rfl ?_))))⟩
    simp only [p_l2, L_lt, L_eq, ms_t3, ms_t7, nar0, nar1]
    by_cases h : st T.length = st (T.length + 1)
    · refine p_yes h ⟨vp_in_nI (by omega) (by decide), ?_⟩
      rw [ex.1 h] at hq
      exact hq
    · refine p_no h ⟨vp_in_nI (by omega) (by decide), ?_⟩
      rw [ex.2 h] at hq
      exact hq
theorem op_ne {cs : CS} {ms : MS} {ad : Nat} {B : TB} {i stop X3 X4 v : Nat} {st : Nat → Int32} {vs : Nat → Int64} {ts : Nat → Int32} {T : List Bool} (P : SP cs ms ad B i stop X3 X4 15 v) (R : SR st vs ts (true :: true :: T)) (hT : (true :: true :: T).length ≤ 64) : SQ cs ms ad i stop X3 X4 st vs ts (true :: true :: T) (false :: T) := by
  obtain ⟨p1, p2, p3, p4, p5, p6, p7, p8, p9, p10, p11⟩ := P
  have hnn := nv_nt T
  have e3 : k_at B.2.2.2.1.1 B.2.2.2.1.2 (nI i) = nI (38 + 64 * v) := p3
  obtain ⟨w1, w2⟩ := wd_rem (o := 38) (v := v) (by decide) p11
  obtain ⟨r1, r2, s1, s2, t3⟩ := R
  have hT3 : T.length + 1 + 1 ≤ 64 := hT
  have r1' : bdV (st (T.length + 1)) := r1
  have r2' : vs (nv T + 1) = Int32.toInt64 (st (T.length + 1)) := r2
  obtain ⟨x, hx, ex⟩ : ∃ x : Int32, (x = 0 ∨ x = 1) ∧ ((¬ st T.length = st (T.length + 1) → x = 1) ∧ (¬ (¬ st T.length = st (T.length + 1)) → x = 0)) := by
    by_cases h : ¬ st T.length = st (T.length + 1)
    · exact ⟨1, Or.inr rfl, fun _ => rfl, fun n => absurd h n⟩
    · exact ⟨0, Or.inl rfl, fun n => absurd n h, fun _ => rfl⟩
  refine ⟨upd st T.length x, vs, upd ts (nt T) x, SR_tru t3 hx, ?_, ?_⟩
  · intro post n hq
    rw [wC_X3_worked_18]
    refine p_no (nI_ge p4 p5) ⟨ad, rfl, B, by rw [cs_px]; exact p1, p2, ?_⟩
    rw [e3, w1, nI_1 i]
    refine ⟨fun h => absurd h (by decide), fun h => absurd h (by decide), fun h => absurd h (by decide), fun h => absurd h (by decide), fun h => absurd h (by decide), fun h => absurd h (by decide), fun h => absurd h (by decide), fun _ _ _ _ _ _ _ => ?_⟩
    show wC_X3_pop (csS cs st (nI (T.length + 1 + 1))) _
    rw [q_pop cs st (show T.length + 1 < 64 by omega), q_pop cs st (show T.length < 64 by omega)]
    unfold wC_X3_joined wC_X3_compares
    refine ⟨fun h => absurd h (by decide), fun h => absurd h (by decide), fun h => absurd h (by decide), fun h => absurd h (by decide), fun h => absurd h (by decide), fun h => absurd h (by decide), fun _ _ _ _ _ _ => ?_⟩
    refine ⟨fun h => absurd h (by decide), fun h => absurd h (by decide), fun h => absurd h (by decide), fun h => absurd h (by decide), fun h => absurd h (by decide), fun _ _ _ _ _ => ?_⟩
    by_cases h : ¬ st T.length = st (T.length + 1)
    · refine p_no h (p_no (by decide) ?_)
      dsimp only
      rw [q_push cs st (show T.length < 64 by omega), ← ex.1 h]
      exact hq
    · refine p_yes (Classical.not_not.mp h) (p_yes rfl ?_)
      dsimp only
      rw [q_push cs st (show T.length < 64 by omega), ← ex.2 h]
      exact hq
  · intro post n hq
    rw [wM_summedUp_38]
    simp only [ms_t1, ms_t2, ms_t3, ms_t4, ms_t6, ms_t7, p_all, nv, nt]
    rw [nI_al 2 X3, nI_lm 2 i, nI_add X4 (2 * i), nI_al 1 (X4 + 2 * i), nI_clamp (show X3 + 2 < 2 ^ 31 by omega), nI_clamp (show X4 + 2 * i < 2 ^ 31 by omega), nI_clamp (show X4 + 2 * i + 1 < 2 ^ 31 by omega), p8, p9, p10, nI_al 1 i]
    refine ⟨vp_in_nI (by omega) (by decide), p_no (nI_ge p4 p5) ⟨vp_in_nI (by omega) (by decide), vp_in_nI (by omega) (by decide), ?_⟩⟩
    refine p_yes (by decide) (p_no (by decide) (p_no (by decide) (p_yes (by decide) (p_yes (by decide) (p_no (by decide) (?_))))))
    rw [nI_m2, nI_1 (nv T), nI_clamp (show nv T < 2 ^ 31 by omega), nI_clamp (show nv T + 1 < 2 ^ 31 by omega), r2', s2, nI_clamp (show nt T < 2 ^ 31 by omega), nI_1 (nt T)]
    unfold wM_isAsked
    refine ⟨vp_in_nI (by omega) (by decide), vp_in_nI (by omega) (by decide), p_no (by decide) (p_no (by decide) (p_no (by decide) (p_no (by decide) (p_no (by decide) ?_))))⟩
    simp only [p_l2, L_lt, L_eq, ms_t3, ms_t7, nar0, nar1]
    by_cases h : ¬ st T.length = st (T.length + 1)
    · refine p_no h ⟨vp_in_nI (by omega) (by decide), ?_⟩
      rw [ex.1 h] at hq
      exact hq
    · refine p_yes (Classical.not_not.mp h) ⟨vp_in_nI (by omega) (by decide), ?_⟩
      rw [ex.2 h] at hq
      exact hq
theorem op_not {cs : CS} {ms : MS} {ad : Nat} {B : TB} {i stop X3 X4 v : Nat} {st : Nat → Int32} {vs : Nat → Int64} {ts : Nat → Int32} {T : List Bool} (P : SP cs ms ad B i stop X3 X4 20 v) (R : SR st vs ts (false :: T)) (hT : (false :: T).length ≤ 64) : SQ cs ms ad i stop X3 X4 st vs ts (false :: T) (false :: T) := by
  obtain ⟨p1, p2, p3, p4, p5, p6, p7, p8, p9, p10, p11⟩ := P
  have hnn := nv_nt T
  have e3 : k_at B.2.2.2.1.1 B.2.2.2.1.2 (nI i) = nI (29 + 64 * v) := p3
  obtain ⟨w1, w2⟩ := wd_rem (o := 29) (v := v) (by decide) p11
  obtain ⟨r1, r2, r3⟩ := R
  have hT3 : T.length + 1 ≤ 64 := hT
  have hx : 1 - st T.length = 0 ∨ 1 - st T.length = 1 := by
    rcases r1 with h | h
    · rw [h]
      exact Or.inr rfl
    · rw [h]
      exact Or.inl rfl
  refine ⟨upd st T.length (1 - st T.length), vs, upd ts (nt T) (1 - st T.length), SR_tru r3 hx, ?_, ?_⟩
  · intro post n hq
    rw [wC_X3_worked_18]
    refine p_no (nI_ge p4 p5) ⟨ad, rfl, B, by rw [cs_px]; exact p1, p2, ?_⟩
    rw [e3, w1, nI_1 i]
    refine ⟨fun h => absurd h (by decide), fun h => absurd h (by decide), fun h => absurd h (by decide), fun _ => ?_, fun h => absurd h (by decide), fun h => absurd h (by decide), fun h => absurd h (by decide), fun _ _ _ h _ _ _ => absurd rfl h⟩
    show wC_X3_pop (csS cs st (nI (T.length + 1))) _
    rw [q_pop cs st (show T.length < 64 by omega), q_push cs st (show T.length < 64 by omega)]
    exact hq
  · intro post n hq
    rw [wM_summedUp_38]
    simp only [ms_t1, ms_t2, ms_t3, ms_t4, ms_t6, ms_t7, p_all, nv, nt]
    rw [nI_al 2 X3, nI_lm 2 i, nI_add X4 (2 * i), nI_al 1 (X4 + 2 * i), nI_clamp (show X3 + 2 < 2 ^ 31 by omega), nI_clamp (show X4 + 2 * i < 2 ^ 31 by omega), nI_clamp (show X4 + 2 * i + 1 < 2 ^ 31 by omega), p8, p9, p10, nI_al 1 i]
    refine ⟨vp_in_nI (by omega) (by decide), p_no (nI_ge p4 p5) ⟨vp_in_nI (by omega) (by decide), vp_in_nI (by omega) (by decide), ?_⟩⟩
    refine p_yes (by decide) (p_no (by decide) (p_no (by decide) (p_yes (by decide) (p_yes (by decide) (p_yes (by decide) (p_yes (by decide) (?_)))))))
    rw [nI_pred, nI_clamp (show nt T < 2 ^ 31 by omega), r2, nar0, nar1]
    refine ⟨vp_in_nI (by omega) (by decide), p_two (fun h => ⟨vp_in_nI (by omega) (by decide), ?_⟩) (fun h => ⟨vp_in_nI (by omega) (by decide), ?_⟩)⟩
    · rw [h] at hq
      exact hq
    · rcases r1 with q | q
      · exact absurd q h
      · rw [q] at hq
        exact hq
theorem op_and {cs : CS} {ms : MS} {ad : Nat} {B : TB} {i stop X3 X4 v : Nat} {st : Nat → Int32} {vs : Nat → Int64} {ts : Nat → Int32} {T : List Bool} (P : SP cs ms ad B i stop X3 X4 21 v) (R : SR st vs ts (false :: false :: T)) (hT : (false :: false :: T).length ≤ 64) : SQ cs ms ad i stop X3 X4 st vs ts (false :: false :: T) (false :: T) := by
  obtain ⟨p1, p2, p3, p4, p5, p6, p7, p8, p9, p10, p11⟩ := P
  have hnn := nv_nt T
  have e3 : k_at B.2.2.2.1.1 B.2.2.2.1.2 (nI i) = nI (28 + 64 * v) := p3
  obtain ⟨w1, w2⟩ := wd_rem (o := 28) (v := v) (by decide) p11
  obtain ⟨r1, r2, s1, s2, t3⟩ := R
  have hT3 : T.length + 1 + 1 ≤ 64 := hT
  have r1' : st (T.length + 1) = 0 ∨ st (T.length + 1) = 1 := r1
  have r2' : ts (nt T + 1) = st (T.length + 1) := r2
  have hx : st T.length &&& st (T.length + 1) = 0 ∨ st T.length &&& st (T.length + 1) = 1 := by
    rcases s1 with a | a <;> rcases r1' with b | b <;> rw [a, b] <;> decide
  refine ⟨upd st T.length (st T.length &&& st (T.length + 1)), vs, upd ts (nt T) (st T.length &&& st (T.length + 1)), SR_tru t3 hx, ?_, ?_⟩
  · intro post n hq
    rw [wC_X3_worked_18]
    refine p_no (nI_ge p4 p5) ⟨ad, rfl, B, by rw [cs_px]; exact p1, p2, ?_⟩
    rw [e3, w1, nI_1 i]
    refine ⟨fun h => absurd h (by decide), fun h => absurd h (by decide), fun h => absurd h (by decide), fun h => absurd h (by decide), fun h => absurd h (by decide), fun h => absurd h (by decide), fun h => absurd h (by decide), fun _ _ _ _ _ _ _ => ?_⟩
    show wC_X3_pop (csS cs st (nI (T.length + 1 + 1))) _
    rw [q_pop cs st (show T.length + 1 < 64 by omega), q_pop cs st (show T.length < 64 by omega)]
    unfold wC_X3_joined
    refine ⟨fun h => absurd h (by decide), fun _ => ?_, fun h => absurd h (by decide), fun h => absurd h (by decide), fun h => absurd h (by decide), fun h => absurd h (by decide), fun _ h _ _ _ _ => absurd rfl h⟩
    dsimp only
    rw [q_push cs st (show T.length < 64 by omega)]
    exact hq
  · intro post n hq
    rw [wM_summedUp_38]
    simp only [ms_t1, ms_t2, ms_t3, ms_t4, ms_t6, ms_t7, p_all, nv, nt]
    rw [nI_al 2 X3, nI_lm 2 i, nI_add X4 (2 * i), nI_al 1 (X4 + 2 * i), nI_clamp (show X3 + 2 < 2 ^ 31 by omega), nI_clamp (show X4 + 2 * i < 2 ^ 31 by omega), nI_clamp (show X4 + 2 * i + 1 < 2 ^ 31 by omega), p8, p9, p10, nI_al 1 i]
    refine ⟨vp_in_nI (by omega) (by decide), p_no (nI_ge p4 p5) ⟨vp_in_nI (by omega) (by decide), vp_in_nI (by omega) (by decide), ?_⟩⟩
    refine p_yes (by decide) (p_no (by decide) (p_no (by decide) (p_yes (by decide) (p_yes (by decide) (p_yes (by decide) (p_no (by decide) (?_)))))))
    rw [nI_m1, nI_pred, nI_clamp (show nt T < 2 ^ 31 by omega), nI_clamp (show nt T + 1 < 2 ^ 31 by omega), r2', s2]
    unfold wM_joined
    refine ⟨vp_in_nI (by omega) (by decide), vp_in_nI (by omega) (by decide), ?_⟩
    simp only [ms_t3, ms_t7, nar0, nar1]
    have vv : vp_in (nI (nt T)) 330 := vp_in_nI (by omega) (by decide)
    rcases s1 with a | a <;> rcases r1' with b | b <;> rw [a, b] at hq ⊢
    · exact p_yes rfl (p_yes rfl ⟨vv, hq⟩)
    · exact p_yes rfl (p_yes rfl ⟨vv, hq⟩)
    · exact p_yes rfl (p_no (by decide) (p_yes rfl ⟨vv, hq⟩))
    · exact p_yes rfl (p_no (by decide) (p_no (by decide) ⟨vv, hq⟩))
theorem op_or {cs : CS} {ms : MS} {ad : Nat} {B : TB} {i stop X3 X4 v : Nat} {st : Nat → Int32} {vs : Nat → Int64} {ts : Nat → Int32} {T : List Bool} (P : SP cs ms ad B i stop X3 X4 22 v) (R : SR st vs ts (false :: false :: T)) (hT : (false :: false :: T).length ≤ 64) : SQ cs ms ad i stop X3 X4 st vs ts (false :: false :: T) (false :: T) := by
  obtain ⟨p1, p2, p3, p4, p5, p6, p7, p8, p9, p10, p11⟩ := P
  have hnn := nv_nt T
  have e3 : k_at B.2.2.2.1.1 B.2.2.2.1.2 (nI i) = nI (27 + 64 * v) := p3
  obtain ⟨w1, w2⟩ := wd_rem (o := 27) (v := v) (by decide) p11
  obtain ⟨r1, r2, s1, s2, t3⟩ := R
  have hT3 : T.length + 1 + 1 ≤ 64 := hT
  have r1' : st (T.length + 1) = 0 ∨ st (T.length + 1) = 1 := r1
  have r2' : ts (nt T + 1) = st (T.length + 1) := r2
  have hx : st T.length ||| st (T.length + 1) = 0 ∨ st T.length ||| st (T.length + 1) = 1 := by
    rcases s1 with a | a <;> rcases r1' with b | b <;> rw [a, b] <;> decide
  refine ⟨upd st T.length (st T.length ||| st (T.length + 1)), vs, upd ts (nt T) (st T.length ||| st (T.length + 1)), SR_tru t3 hx, ?_, ?_⟩
  · intro post n hq
    rw [wC_X3_worked_18]
    refine p_no (nI_ge p4 p5) ⟨ad, rfl, B, by rw [cs_px]; exact p1, p2, ?_⟩
    rw [e3, w1, nI_1 i]
    refine ⟨fun h => absurd h (by decide), fun h => absurd h (by decide), fun h => absurd h (by decide), fun h => absurd h (by decide), fun h => absurd h (by decide), fun h => absurd h (by decide), fun h => absurd h (by decide), fun _ _ _ _ _ _ _ => ?_⟩
    show wC_X3_pop (csS cs st (nI (T.length + 1 + 1))) _
    rw [q_pop cs st (show T.length + 1 < 64 by omega), q_pop cs st (show T.length < 64 by omega)]
    unfold wC_X3_joined
    refine ⟨fun _ => ?_, fun h => absurd h (by decide), fun h => absurd h (by decide), fun h => absurd h (by decide), fun h => absurd h (by decide), fun h => absurd h (by decide), fun h _ _ _ _ _ => absurd rfl h⟩
    dsimp only
    rw [q_push cs st (show T.length < 64 by omega)]
    exact hq
  · intro post n hq
    rw [wM_summedUp_38]
    simp only [ms_t1, ms_t2, ms_t3, ms_t4, ms_t6, ms_t7, p_all, nv, nt]
    rw [nI_al 2 X3, nI_lm 2 i, nI_add X4 (2 * i), nI_al 1 (X4 + 2 * i), nI_clamp (show X3 + 2 < 2 ^ 31 by omega), nI_clamp (show X4 + 2 * i < 2 ^ 31 by omega), nI_clamp (show X4 + 2 * i + 1 < 2 ^ 31 by omega), p8, p9, p10, nI_al 1 i]
    refine ⟨vp_in_nI (by omega) (by decide), p_no (nI_ge p4 p5) ⟨vp_in_nI (by omega) (by decide), vp_in_nI (by omega) (by decide), ?_⟩⟩
    refine p_yes (by decide) (p_no (by decide) (p_no (by decide) (p_yes (by decide) (p_yes (by decide) (p_yes (by decide) (p_no (by decide) (?_)))))))
    rw [nI_m1, nI_pred, nI_clamp (show nt T < 2 ^ 31 by omega), nI_clamp (show nt T + 1 < 2 ^ 31 by omega), r2', s2]
    unfold wM_joined
    refine ⟨vp_in_nI (by omega) (by decide), vp_in_nI (by omega) (by decide), ?_⟩
    simp only [ms_t3, ms_t7, nar0, nar1]
    have vv : vp_in (nI (nt T)) 330 := vp_in_nI (by omega) (by decide)
    rcases s1 with a | a <;> rcases r1' with b | b <;> rw [a, b] at hq ⊢
    · exact p_no (by decide) (p_yes rfl (p_yes rfl ⟨vv, hq⟩))
    · exact p_no (by decide) (p_yes rfl (p_no (by decide) ⟨vv, hq⟩))
    · exact p_no (by decide) (p_no (by decide) ⟨vv, hq⟩)
    · exact p_no (by decide) (p_no (by decide) ⟨vv, hq⟩)
