/-! PURE LAYER: a law's code on both sides -/
def NM (s : Nat) (cs : CS) (ms : MS) : Prop := ∀ k, nmOk s k = true → k < 12 ∧ cx_l_named cs k = ms_named ms k ∧ bdV (cx_l_named cs k)
theorem op_any {s : Nat} {cs : CS} {ms : MS} {ad : Nat} {B : TB} {i stop X3 X4 k v : Nat} {st : Nat → Int32} {vs : Nat → Int64} {ts : Nat → Int32} {T T' : List Bool} (hN : NM s cs ms) {b : Nat → Int32} (hR : RC cs.1 b) (hA : ∀ k, k ≠ 8 → ms_a ms k = b k) (P : SP cs ms ad B i stop X3 X4 k v) (R : SR st vs ts T) (hT : T.length ≤ 64) (h : tyStep s (k, v) T = some T') : SQ cs ms ad i stop X3 X4 st vs ts T T' ∧ T'.length ≤ 64 := by
  unfold tyStep at h
  dsimp only at h
  by_cases cv : 9999 < v
  · rw [if_pos cv] at h
    cases h
  rw [if_neg cv] at h
  by_cases c0 : k = 0
  · rw [if_pos c0] at h
    subst c0
    by_cases d : T.length < 64
    · rw [if_pos d] at h
      cases h
      exact ⟨op_num P R hT d, d⟩
    · rw [if_neg d] at h
      cases h
  rw [if_neg c0] at h
  by_cases c1 : k = 1
  · rw [if_pos c1] at h
    subst c1
    by_cases d : nmOk s v = true ∧ T.length < 64
    · rw [if_pos d] at h
      cases h
      exact ⟨op_name (hN v d.1) P R hT d.2, d.2⟩
    · rw [if_neg d] at h
      cases h
  rw [if_neg c1] at h
  by_cases c2 : k = 2 ∨ k = 5
  · rw [if_pos c2] at h
    rcases T with _ | ⟨b, T⟩
    · cases h
    · cases b
      · cases h
      · cases h
        rcases c2 with c2 | c2 <;> subst c2
        · exact ⟨op_mood hR hA P R hT, hT⟩
        · exact ⟨op_neg P R hT, hT⟩
  rw [if_neg c2] at h
  by_cases c3 : k = 3
  · rw [if_pos c3] at h
    subst c3
    rcases T with _ | ⟨b, T⟩
    · cases h
    cases b
    · cases h
    rcases T with _ | ⟨b, T⟩
    · cases h
    cases b
    · cases h
    rcases T with _ | ⟨b, T⟩
    · cases h
    cases b
    · cases h
      refine ⟨op_sel P R hT, ?_⟩
      have hT' : T.length + 1 + 1 + 1 ≤ 64 := hT
      show T.length + 1 ≤ 64
      omega
    · cases h
  rw [if_neg c3] at h
  by_cases c4 : k = 4
  · rw [if_pos c4] at h
    subst c4
    rcases T with _ | ⟨b, T⟩
    · cases h
    cases b
    · cases h
    rcases T with _ | ⟨b, T⟩
    · cases h
    cases b
    · cases h
    rcases T with _ | ⟨b, T⟩
    · cases h
    cases b
    · cases h
    · cases h
      refine ⟨op_hold P R hT, ?_⟩
      have hT' : T.length + 1 + 1 + 1 ≤ 64 := hT
      show T.length + 1 ≤ 64
      omega
  rw [if_neg c4] at h
  by_cases c6 : 6 ≤ k ∧ k ≤ 9
  · rw [if_pos c6] at h
    rcases T with _ | ⟨b, T⟩
    · cases h
    cases b
    · cases h
    rcases T with _ | ⟨b, T⟩
    · cases h
    cases b
    · cases h
    · cases h
      have hT' : T.length + 1 + 1 ≤ 64 := hT
      have hl : (true :: T).length ≤ 64 := by
        show T.length + 1 ≤ 64
        omega
      have hk : k = 6 ∨ k = 7 ∨ k = 8 ∨ k = 9 := by omega
      rcases hk with e | e | e | e <;> subst e
      · exact ⟨op_add P R hT, hl⟩
      · exact ⟨op_sub P R hT, hl⟩
      · exact ⟨op_mul P R hT, hl⟩
      · exact ⟨op_div P R hT, hl⟩
  rw [if_neg c6] at h
  by_cases c10 : 10 ≤ k ∧ k ≤ 15
  · rw [if_pos c10] at h
    rcases T with _ | ⟨b, T⟩
    · cases h
    cases b
    · cases h
    rcases T with _ | ⟨b, T⟩
    · cases h
    cases b
    · cases h
    · cases h
      have hT' : T.length + 1 + 1 ≤ 64 := hT
      have hl : (false :: T).length ≤ 64 := by
        show T.length + 1 ≤ 64
        omega
      have hk : k = 10 ∨ k = 11 ∨ k = 12 ∨ k = 13 ∨ k = 14 ∨ k = 15 := by omega
      rcases hk with e | e | e | e | e | e <;> subst e
      · exact ⟨op_lt P R hT, hl⟩
      · exact ⟨op_le P R hT, hl⟩
      · exact ⟨op_gt P R hT, hl⟩
      · exact ⟨op_ge P R hT, hl⟩
      · exact ⟨op_eq P R hT, hl⟩
      · exact ⟨op_ne P R hT, hl⟩
  rw [if_neg c10] at h
  by_cases c20 : k = 20
  · rw [if_pos c20] at h
    subst c20
    rcases T with _ | ⟨b, T⟩
    · cases h
    cases b
    · cases h
      exact ⟨op_not P R hT, hT⟩
    · cases h
  rw [if_neg c20] at h
  by_cases c21 : k = 21 ∨ k = 22
  · rw [if_pos c21] at h
    rcases T with _ | ⟨b, T⟩
    · cases h
    cases b
    · rcases T with _ | ⟨b, T⟩
      · cases h
      cases b
      · cases h
        have hT' : T.length + 1 + 1 ≤ 64 := hT
        have hl : (false :: T).length ≤ 64 := by
          show T.length + 1 ≤ 64
          omega
        rcases c21 with e | e <;> subst e
        · exact ⟨op_and P R hT, hl⟩
        · exact ⟨op_or P R hT, hl⟩
      · cases h
    · cases h
  rw [if_neg c21] at h
  cases h
theorem run_code {s : Nat} {cs : CS} {ms : MS} {ad : Nat} {B : TB} {stop X3 X4 : Nat} (hN : NM s cs ms) {b : Nat → Int32} (hR : RC cs.1 b) (hA : ∀ k, k ≠ 8 → ms_a ms k = b k) : ∀ (L : List (Nat × Nat)) (i : Nat) (st : Nat → Int32) (vs : Nat → Int64) (ts : Nat → Int32) (T T2 : List Bool), i + L.length = stop → (∀ j, j < L.length → ∃ q : Nat × Nat, L[j]? = some q ∧ (q.2 ≤ 9999 → SP cs ms ad B (i + j) stop X3 X4 q.1 q.2)) → tyRun s L T = some T2 → SR st vs ts T → T.length ≤ 64 → ∃ (st' : Nat → Int32) (vs' : Nat → Int64) (ts' : Nat → Int32), SR st' vs' ts' T2 ∧ T2.length ≤ 64 ∧ (∀ (post : Int32 → CS → Prop) (n : Nat), wC_X3_worked_18 post n (some ad) (nI stop) (nI stop) (csS cs st' (nI T2.length)) → wC_X3_worked_18 post (n + L.length) (some ad) (nI stop) (nI i) (csS cs st (nI T.length))) ∧ (∀ (post : Int64 → MS → Prop) (n : Nat), wM_summedUp_38 post n (nI X3) (nI X4) (nI (nv T2)) (nI (nt T2)) (nI stop) (msS ms vs' ts') → wM_summedUp_38 post (n + L.length) (nI X3) (nI X4) (nI (nv T)) (nI (nt T)) (nI i) (msS ms vs ts)) := by
  intro L
  induction L with
  | nil =>
    intro i st vs ts T T2 e _ h R hT
    have e1 : i = stop := e
    have e2 : T = T2 := Option.some.inj h
    subst e1 e2
    exact ⟨st, vs, ts, R, hT, fun post n h => h, fun post n h => h⟩
  | cons q L ih =>
    intro i st vs ts T T2 e hj h R hT
    have e' : i + (L.length + 1) = stop := e
    obtain ⟨q', hq, hP⟩ := hj 0 (Nat.zero_lt_succ _)
    have hqq : q = q' := Option.some.inj hq
    subst hqq
    have h' : (tyStep s q T).bind (tyRun s L) = some T2 := h
    cases hs : tyStep s q T with
    | none =>
      rw [hs] at h'
      cases h'
    | some T1 =>
      rw [hs] at h'
      have h2 : tyRun s L T1 = some T2 := h'
      have hv : q.2 ≤ 9999 := by
        unfold tyStep at hs
        by_cases c : 9999 < q.2
        · rw [if_pos c] at hs
          cases hs
        · omega
      have P := hP hv
      rw [Nat.add_zero] at P
      obtain ⟨⟨st1, vs1, ts1, R1, C1, M1⟩, hT1⟩ := op_any (k := q.1) (v := q.2) hN hR hA P R hT hs
      obtain ⟨st2, vs2, ts2, R2, hT2, C2, M2⟩ := ih (i + 1) st1 vs1 ts1 T1 T2 (by omega) (by
        intro j hjj
        obtain ⟨q2, g1, g2⟩ := hj (j + 1) (Nat.succ_lt_succ hjj)
        refine ⟨q2, g1, ?_⟩
        intro hv2
        have := g2 hv2
        rw [show i + (j + 1) = i + 1 + j by omega] at this
        exact this) h2 R1 hT1
      exact ⟨st2, vs2, ts2, R2, hT2, fun post n hh => C1 post (n + L.length) (C2 post n hh), fun post n hh => M1 post (n + L.length) (M2 post n hh)⟩
theorem cs_start (S : CS) : csS S (cx_l_stack S) 0 = cx_set_l_height S 0 := by
  simp only [csS, cx_set_l_height, cx_set_l_stack, cx_l_stack]
theorem ms_start (S : MS) : msS S (ms_values S) (ms_truth S) = S := rfl
/-- a law that is there -/
theorem work_eq {s t k i0 : Nat} {L : List (Nat × Nat)} {cs : CS} {ms : MS} {ad : Nat} {B : TB} (hs : s < 3) (ht : t < 4) (hk : k < 24) (hN : NM s cs ms) {b : Nat → Int32} (hR : RC cs.1 b) (hA : ∀ k, k ≠ 8 → ms_a ms k = b k) (hm : (ad, B) ∈ cx_px cs) (h6 : B.2.2.2.2.1 = 6) (hc : B.2.2.2.1.1 ≤ 300) (x1 : ms_texts ms (705 * t + (2 + 4 * k)) = nI i0) (x2 : ms_texts ms (705 * t + (3 + 4 * k)) = nI (i0 + L.length)) (b1 : B.2.2.2.2.2 (2 * s) = nI i0) (b2 : B.2.2.2.2.2 (2 * s + 1) = nI (i0 + L.length)) (hl : i0 + L.length ≤ B.2.2.2.1.1) (hw : ∀ j, j < L.length → ∃ q : Nat × Nat, L[j]? = some q ∧ B.2.2.2.1.2 (i0 + j) = nI (opC q.1 + 64 * q.2) ∧ ms_texts ms (705 * t + (97 + 2 * (i0 + j))) = nI q.1 ∧ ms_texts ms (705 * t + (98 + 2 * (i0 + j))) = nI q.2) (hy : tyRun s L [] = some [true]) : ∃ (r : Int32) (cs' : CS) (ms' : MS), bdV r ∧ sC cs cs' ∧ sM ms ms' ∧ rt (wC_X3_worked (some ad) (nI s) cs) r cs' ∧ (∀ post : Int64 → MS → Prop, post (Int32.toInt64 r) ms' → wM_summedUp (nI t) (nI k) ms post) := by
  obtain ⟨st, vs, ts, R, _, hC, hM⟩ := run_code (s := s) (cs := cs) (ms := ms) (ad := ad) (B := B) (stop := i0 + L.length) (X3 := 705 * t + 1 + 4 * k) (X4 := 705 * t + 97) hN hR hA L i0 (cx_l_stack cs) (ms_values ms) (ms_truth ms) [] [true] rfl (by
    intro j hj
    obtain ⟨q, g1, g2, g3, g4⟩ := hw j hj
    refine ⟨q, g1, ?_⟩
    intro hv
    refine ⟨hm, by omega, ?_, by omega, by omega, by omega, by omega, ?_, ?_, ?_, hv⟩
    · rw [p_at (by omega) _ (by omega)]
      exact g2
    · rw [show 705 * t + 1 + 4 * k + 2 = 705 * t + (3 + 4 * k) by omega]
      exact x2
    · rw [show 705 * t + 97 + 2 * (i0 + j) = 705 * t + (97 + 2 * (i0 + j)) by omega]
      exact g3
    · rw [show 705 * t + 97 + 2 * (i0 + j) + 1 = 705 * t + (98 + 2 * (i0 + j)) by omega]
      exact g4) hy trivial (by decide)
  obtain ⟨r1, r2, _⟩ := R
  refine ⟨st 0, csS cs st (nI 0), msS ms vs ts, r1, cs_sC _ _ _, ms_sM _ _ _, ?_, ?_⟩
  · intro post hp
    unfold wC_X3_worked wC_X9_stopOf wC_X9_startOf
    intro S1 e1
    have hpx : cx_px S1 = cx_px cs := by
      rw [e1, ← cs_start]
      exact cs_px _ _ _
    have hm1 : (ad, B) ∈ cx_px S1 := by
      rw [hpx]
      exact hm
    refine ⟨ad, rfl, B, hm1, B, hm1, by omega, B, hm1, B, hm1, by omega, L.length + 1, ?_⟩
    rw [h6, nI_ml 2 s, nI_1, p_at (by decide) _ (show s * 2 + 1 < 6 by omega), p_at (by decide) _ (show s * 2 < 6 by omega), Nat.mul_comm s 2, b1, b2, e1, ← cs_start, Nat.add_comm]
    refine hC post 1 ?_
    rw [wC_X3_worked_18]
    refine p_yes (Int32.le_refl _) ?_
    show wC_X3_pop (csS cs st (nI (0 + 1))) _
    rw [q_pop cs st (by decide)]
    exact hp
  · intro post hp
    unfold wM_summedUp
    rw [nI_lm 705 t, nI_1, nI_lm 4 k, nI_add, nI_1, nI_al 97 (705 * t), nI_clamp (by omega), show 705 * t + 1 + 4 * k + 1 = 705 * t + (2 + 4 * k) by omega, x1]
    refine ⟨vp_in_nI (by omega) (by decide), L.length + 1, ?_⟩
    rw [Nat.add_comm]
    have q := hM post 1 (by
      rw [wM_summedUp_38, ms_t1, ms_t2, nI_al 2 (705 * t + 1 + 4 * k), nI_clamp (by omega), show 705 * t + 1 + 4 * k + 2 = 705 * t + (3 + 4 * k) by omega, x2]
      refine ⟨vp_in_nI (by omega) (by decide), p_yes (Int32.le_refl _) ?_⟩
      have e0 : vs 0 = Int32.toInt64 (st 0) := r2
      rw [e0]
      exact hp)
    rw [ms_start] at q
    exact q
