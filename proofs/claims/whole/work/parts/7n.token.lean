/-! PURE LAYER: the reference's tokens -/
def mBody (post : MS → Prop) (S_6 : MS) : Prop := (∀ S_8 : MS, S_8 = (ms_set_place S_6 (ms_at S_6)) → wM_byteAt (ms_at S_8) S_8 (fun r_9 S_10 => ((0 ≤ r_9 → wM_isFigure r_9 S_10 (fun r_12 S_13 => ((r_12 = 0 → wM_isLetterByte r_9 S_13 (fun r_15 S_16 => ((r_15 = 0 → wM_isSign r_9 S_16 (fun r_18 S_19 => ((r_18 = 0 → wM_nextToken_247 post r_9 3 S_19) ∧ (¬ (r_18 = 0) → wM_nextToken_247 post r_9 r_9 S_19)))) ∧ (¬ (r_15 = 0) → (∀ S_21 : MS, S_21 = (ms_set_token S_16 2) → (∀ S_22 : MS, S_22 = (ms_set_word S_21 0) → ∃ k_ : Nat, wM_nextToken_168 post k_ S_22)))))) ∧ (¬ (r_12 = 0) → (∀ S_23 : MS, S_23 = (ms_set_token S_13 1) → (∀ S_24 : MS, S_24 = (ms_set_number S_23 0) → ∃ k_ : Nat, wM_nextToken_85 post k_ S_24)))))) ∧ (¬ (0 ≤ r_9) → (∀ S_25 : MS, S_25 = (ms_set_token S_10 0) → post S_25)))))
def btM (b : Nat → Nat) (n i : Nat) : Int32 := if i < n then nI (b i) else -1
theorem m_byte {S : CS} {M : MS} {n : Nat} {b : Nat → Nat} (T : TP S M n b) {i : Nat} (hi : i ≤ n) (aa pl tk nu : Int32) (wd : Int64) (tx : Nat → Int32) (wr : Int32) (pi : Nat → Int32) (pd op iw : Int32) (post : Int32 → MS → Prop) : wM_byteAt (nI i) (mA M aa pl tk nu wd tx wr pi pd op iw) post = post (btM b n i) (mA M aa pl tk nu wd tx wr pi pd op iw) := by
  have hn := T.1
  unfold wM_byteAt btM
  rw [mA_taped, mA_tape, T.2.2.1]
  by_cases c : i < n
  · rw [p_F (nI_ge c (by omega)), if_pos c, nI_clamp (by omega), p_vp (by omega) (by decide), (T.2.2.2 i c).2.1]
  · rw [p_T (nI_le (by omega) (by omega)), if_neg c]
theorem bt_in {b : Nat → Nat} {n i : Nat} (h : i < n) : btM b n i = nI (b i) := if_pos h
theorem bt_out {b : Nat → Nat} {n i : Nat} (h : ¬ i < n) : btM b n i = -1 := if_neg h
theorem m_skip {S : CS} {M : MS} {n : Nat} {b : Nat → Nat} (T : TP S M n b) {s : Nat} (pl tk nu : Int32) (wd : Int64) (tx : Nat → Int32) (wr : Int32) (pi : Nat → Int32) (pd op iw : Int32) (post : MS → Prop) : ∀ d p, p + d = n → s = spn (fun i => blB (b i)) d p → mBody post (mA M (nI s) pl tk nu wd tx wr pi pd op iw) → wM_nextToken_0 post (d + 1) (mA M (nI p) pl tk nu wd tx wr pi pd op iw) := by
  have hn := T.1
  intro d
  induction d with
  | zero =>
    intro p e es h
    have es' : s = p := es
    rw [es'] at h
    rw [wM_nextToken_0, mA_at, m_byte T (by omega)]
    try dsimp only
    rw [bt_out (by omega), mA_at, m_byte T (by omega), bt_out (by omega)]
    exact p_no (by decide) (p_no (by decide) h)
  | succ d ih =>
    intro p e es h
    have hb := (T.2.2.2 p (by omega)).2.2
    have t := tk_bl (b p) (by omega)
    rw [wM_nextToken_0, mA_at, m_byte T (by omega)]
    try dsimp only
    rw [bt_in (by omega), mA_at, m_byte T (by omega), bt_in (by omega)]
    by_cases c : blB (b p) = true
    · have e2 : spn (fun i => blB (b i)) (d + 1) p = spn (fun i => blB (b i)) d (p + 1) := if_pos c
      have go := ih (p + 1) (by omega) (es.trans e2) h
      have go2 : ∀ S_4 : MS, S_4 = ms_set_at (mA M (nI p) pl tk nu wd tx wr pi pd op iw) (ms_at (mA M (nI p) pl tk nu wd tx wr pi pd op iw) + 1) → wM_nextToken_0 post (d + 1) S_4 := by
        intro S_4 e4
        rw [e4, mA_at, mA_s_at, nI_1]
        exact go
      refine p_two (fun _ => go2) (fun q => p_yes ?_ go2)
      rcases t.mp c with z | z
      · exact absurd z q
      · exact z
    · have e2 : spn (fun i => blB (b i)) (d + 1) p = p := if_neg c
      rw [es.trans e2] at h
      exact p_no (fun z => c (t.mpr (Or.inl z))) (p_no (fun z => c (t.mpr (Or.inr z))) h)
theorem m_letters {S : CS} {M : MS} {n : Nat} {b : Nat → Nat} (T : TP S M n b) {s e : Nat} (pl tk nu : Int32) (tx : Nat → Int32) (wr : Int32) (pi : Nat → Int32) (pd op iw : Int32) (post : MS → Prop) (hp : post (mA M (nI e) pl tk nu (lN (wdV b s (e - s))) tx wr pi pd op iw)) : ∀ d p, s ≤ p → p + d = n → e = spn (fun i => leB (b i)) d p → (∀ i, s ≤ i → i < p → leB (b i) = true) → wM_nextToken_168 post (d + 1) (mA M (nI p) pl tk nu (lN (wdV b s (p - s))) tx wr pi pd op iw) := by
  have hn := T.1
  intro d
  induction d with
  | zero =>
    intro p hs e0 es hl
    have es' : e = p := es
    rw [es'] at hp
    rw [wM_nextToken_168, mA_at, m_byte T (by omega)]
    try dsimp only
    rw [bt_out (by omega), m_isLetter (b := false) (by decide)]
    exact p_yes rfl hp
  | succ d ih =>
    intro p hs e0 es hl
    have hb := (T.2.2.2 p (by omega)).2.2
    rw [wM_nextToken_168, mA_at, m_byte T (by omega)]
    try dsimp only
    rw [bt_in (by omega), m_isLetter (tk_le (b p) (by omega)), p_b0]
    by_cases c : leB (b p) = true
    · have e2 : spn (fun i => leB (b i)) (d + 1) p = spn (fun i => leB (b i)) d (p + 1) := if_pos c
      have hl2 : ∀ i, s ≤ i → i < p + 1 → leB (b i) = true := by
        intro i h1 h2
        by_cases ei : i = p
        · rw [ei]
          exact c
        · exact hl i h1 (by omega)
      have lb : ∀ i, s ≤ i → i < p + 1 → 1 ≤ b i ∧ b i ≤ 255 := by
        intro i h1 h2
        have q := hl2 i h1 h2
        unfold leB at q
        have q1 := Bool.or_eq_true_iff.mp q
        rcases q1 with q1 | q1
        · have q2 := Bool.and_eq_true_iff.mp q1
          have := of_decide_eq_true q2.1
          have := of_decide_eq_true q2.2
          omega
        · have q2 := Bool.and_eq_true_iff.mp q1
          have := of_decide_eq_true q2.1
          have := of_decide_eq_true q2.2
          omega
      obtain ⟨g1, g2, g3⟩ := wdV_big (b := b) (s := s) (p - s) (fun j hj => lb (s + j) (by omega) (by omega))
      have ew : wdV b s (p + 1 - s) = (if wdV b s (p - s) < 2 ^ 48 then wdV b s (p - s) * 256 + b p else 2 ^ 60) := by
        rw [show p + 1 - s = (p - s) + 1 by omega]
        show (if wdV b s (p - s) < 2 ^ 48 then wdV b s (p - s) * 256 + b (s + (p - s)) else 2 ^ 60) = _
        rw [show s + (p - s) = p by omega]
      have go := ih (p + 1) (by omega) (by omega) (es.trans e2) hl2
      rw [ew] at go
      refine p_val c ?_
      simp only [p_all]
      rw [mA_word, lN_shr48 (by omega), mA_at, m_byte T (by omega)]
      try dsimp only
      rw [bt_in (by omega), mA_s_word, mA_at, mA_s_at, mA_s_word, mA_at, mA_s_at, nI_1]
      refine p_two (fun q => ?_) (fun q => ?_)
      · rw [lN_shl q (by omega)]
        rw [if_pos q] at go
        exact go
      · rw [if_neg q] at go
        exact go
    · have e2 : spn (fun i => leB (b i)) (d + 1) p = p := if_neg c
      rw [es.trans e2] at hp
      exact p_yes c hp
theorem m_digits {S : CS} {M : MS} {n : Nat} {b : Nat → Nat} (T : TP S M n b) {s e : Nat} (pl tk : Int32) (wd : Int64) (tx : Nat → Int32) (wr : Int32) (pi : Nat → Int32) (pd op iw : Int32) (post : MS → Prop) (hp : post (mA M (nI e) pl tk (nI (rNu b s (e - s))) wd tx wr pi pd op iw)) : ∀ d p, s ≤ p → p + d = n → e = spn (fun i => fiB (b i)) d p → (∀ i, s ≤ i → i < p → fiB (b i) = true) → wM_nextToken_85 post (d + 1) (mA M (nI p) pl tk (nI (rNu b s (p - s))) wd tx wr pi pd op iw) := by
  have hn := T.1
  intro d
  induction d with
  | zero =>
    intro p hs e0 es hl
    have es' : e = p := es
    rw [es'] at hp
    rw [wM_nextToken_85, mA_at, m_byte T (by omega)]
    try dsimp only
    rw [bt_out (by omega), m_isFigure (b := false) (by decide)]
    exact p_yes rfl hp
  | succ d ih =>
    intro p hs e0 es hl
    have hb := (T.2.2.2 p (by omega)).2.2
    rw [wM_nextToken_85, mA_at, m_byte T (by omega)]
    try dsimp only
    rw [bt_in (by omega), m_isFigure (tk_fi (b p) (by omega)), p_b0]
    by_cases c : fiB (b p) = true
    · have e2 : spn (fun i => fiB (b i)) (d + 1) p = spn (fun i => fiB (b i)) d (p + 1) := if_pos c
      have hl2 : ∀ i, s ≤ i → i < p + 1 → fiB (b i) = true := by
        intro i h1 h2
        by_cases ei : i = p
        · rw [ei]
          exact c
        · exact hl i h1 (by omega)
      have fb : ∀ i, s ≤ i → i < p + 1 → 48 ≤ b i ∧ b i ≤ 57 := by
        intro i h1 h2
        have q := hl2 i h1 h2
        unfold fiB at q
        have q1 := Bool.and_eq_true_iff.mp q
        exact ⟨of_decide_eq_true q1.1, of_decide_eq_true q1.2⟩
      obtain ⟨n1, n2, n3, n4⟩ := nu_eq (b := b) (s := s) (p - s) (fun j hj => fb (s + j) (by omega) (by omega))
      have bp := fb p hs (by omega)
      have ew : rNu b s (p + 1 - s) = (if rNu b s (p - s) ≤ 99999 then 10 * rNu b s (p - s) + b p - 48 else rNu b s (p - s)) := by
        rw [show p + 1 - s = (p - s) + 1 by omega]
        show (if rNu b s (p - s) ≤ 99999 then 10 * rNu b s (p - s) + b (s + (p - s)) - 48 else rNu b s (p - s)) = _
        rw [show s + (p - s) = p by omega]
      have go := ih (p + 1) (by omega) (by omega) (es.trans e2) hl2
      rw [ew] at go
      refine p_val c ?_
      simp only [p_all]
      have ev : (10 * nI (rNu b s (p - s)) + nI (b p)) - 48 = nI (10 * rNu b s (p - s) + b p - 48) := by
        rw [nI_lm 10, nI_add]
        exact nI_sub (b := 48) (by omega)
      rw [mA_number, mA_at, m_byte T (by omega)]
      try dsimp only
      rw [bt_in (by omega), ev, mA_s_number, mA_at, mA_s_at, mA_s_number, mA_at, mA_s_at, nI_1]
      have ele : (nI (rNu b s (p - s)) ≤ 99999) = (rNu b s (p - s) ≤ 99999) := propext (nI_leI (b := 99999) (by omega) (by decide))
      rw [ele]
      refine p_two (fun q => ?_) (fun q => ?_)
      · rw [if_pos q] at go
        exact go
      · rw [if_neg q] at go
        exact go
    · have e2 : spn (fun i => fiB (b i)) (d + 1) p = p := if_neg c
      rw [es.trans e2] at hp
      exact p_yes c hp
/-- the reference's sign -/
def sgB (x : Nat) : Bool := x == 35 || x == 40 || x == 41 || x == 42 || x == 43 || x == 45 || x == 47 || x == 58 || x == 59 || x == 60 || x == 61 || x == 62
def sgT (x : Nat) (eq : Bool) : Int32 := if x = 60 ∧ eq = true then 4 else if x = 62 ∧ eq = true then 5 else if sgB x = true then nI x else 3
theorem m_isSign {x : Nat} (hx : x ≤ 255) (S : MS) (post : Int32 → MS → Prop) (hp : post (if sgB x = true then 1 else 0) S) : wM_isSign (nI x) S post := by
  have k : ∀ c, c ≤ 255 → (nI x = nI c ↔ x = c) := fun c hc => nI_eq (by omega) (by omega)
  unfold wM_isSign
  refine ⟨fun z => ?_, fun z => ?_, fun z => ?_, fun z => ?_, fun z => ?_, fun z => ?_, fun z => ?_, fun z => ?_, fun z => ?_, fun z => ?_, fun z => ?_, fun z => ?_, fun z1 z2 z3 z4 z5 z6 z7 z8 z9 z10 z11 z12 => ?_⟩
  · have q := (k 35 (by decide)).mp z
    subst q
    exact hp
  · have q := (k 40 (by decide)).mp z
    subst q
    exact hp
  · have q := (k 41 (by decide)).mp z
    subst q
    exact hp
  · have q := (k 42 (by decide)).mp z
    subst q
    exact hp
  · have q := (k 43 (by decide)).mp z
    subst q
    exact hp
  · have q := (k 45 (by decide)).mp z
    subst q
    exact hp
  · have q := (k 47 (by decide)).mp z
    subst q
    exact hp
  · have q := (k 58 (by decide)).mp z
    subst q
    exact hp
  · have q := (k 59 (by decide)).mp z
    subst q
    exact hp
  · have q := (k 60 (by decide)).mp z
    subst q
    exact hp
  · have q := (k 61 (by decide)).mp z
    subst q
    exact hp
  · have q := (k 62 (by decide)).mp z
    subst q
    exact hp
  · have : sgB x = false := by
      unfold sgB
      rw [beq_false_of_ne (fun q => z1 ((k 35 (by decide)).mpr q)), beq_false_of_ne (fun q => z2 ((k 40 (by decide)).mpr q)), beq_false_of_ne (fun q => z3 ((k 41 (by decide)).mpr q)), beq_false_of_ne (fun q => z4 ((k 42 (by decide)).mpr q)), beq_false_of_ne (fun q => z5 ((k 43 (by decide)).mpr q)), beq_false_of_ne (fun q => z6 ((k 45 (by decide)).mpr q)), beq_false_of_ne (fun q => z7 ((k 47 (by decide)).mpr q)), beq_false_of_ne (fun q => z8 ((k 58 (by decide)).mpr q)), beq_false_of_ne (fun q => z9 ((k 59 (by decide)).mpr q)), beq_false_of_ne (fun q => z10 ((k 60 (by decide)).mpr q)), beq_false_of_ne (fun q => z11 ((k 61 (by decide)).mpr q)), beq_false_of_ne (fun q => z12 ((k 62 (by decide)).mpr q))]
      rfl
    rw [this] at hp
    exact hp
theorem sg_TokT : ∀ x, x < 256 → leB x = false → fiB x = false → (33 ≤ sgC x true ∧ sgC x true ≤ 45 ∧ sgT x true = nI (sgN (sgC x true)) ∧ ¬ sgT x true = 2) ∨ (sgC x true = 30 ∧ (sgT x true = 3 ∨ sgT x true = 58)) := by decide +kernel
theorem sg_TokN : ∀ x, x < 256 → leB x = false → fiB x = false → (33 ≤ sgC x false ∧ sgC x false ≤ 45 ∧ sgT x false = nI (sgN (sgC x false)) ∧ ¬ sgT x false = 2) ∨ (sgC x false = 30 ∧ (sgT x false = 3 ∨ sgT x false = 58)) := by decide +kernel
theorem sg_TokF (x : Nat) (h1 : x < 256) (h2 : leB x = false) (h3 : fiB x = false) (eq : Bool) : (33 ≤ sgC x eq ∧ sgC x eq ≤ 45 ∧ sgT x eq = nI (sgN (sgC x eq)) ∧ ¬ sgT x eq = 2) ∨ (sgC x eq = 30 ∧ (sgT x eq = 3 ∨ sgT x eq = 58)) := by
  cases eq
  · exact sg_TokN x h1 h2 h3
  · exact sg_TokT x h1 h2 h3
theorem m_sign {S : CS} {M : MS} {n : Nat} {b : Nat → Nat} (T : TP S M n b) {s : Nat} (hs : s < n) (tk nu : Int32) (wd : Int64) (tx : Nat → Int32) (wr : Int32) (pi : Nat → Int32) (pd op iw : Int32) (post : MS → Prop) (hp : post (mA M (nI (s + sgE (b s) (decide (s + 1 < n) && (b (s + 1) == 61)))) (nI s) (sgT (b s) (decide (s + 1 < n) && (b (s + 1) == 61))) nu wd tx wr pi pd op iw)) : wM_nextToken_247 post (nI (b s)) (if sgB (b s) = true then nI (b s) else 3) (mA M (nI s) (nI s) tk nu wd tx wr pi pd op iw) := by
  have hn := T.1
  have hb := (T.2.2.2 s hs).2.2
  have k : ∀ c, c ≤ 255 → (nI (b s) = nI c ↔ b s = c) := fun c hc => nI_eq (by omega) (by omega)
  have k60 := k 60 (by decide)
  have k62 := k 62 (by decide)
  -- whether an equals sign is next
  have nx : ∀ (t0 : Int32) (A B : MS → Prop), True := fun _ _ _ => trivial
  have tail : (b s = 60 ∨ b s = 62) → wM_nextToken_272 post (nI (b s)) (mA M (nI (s + 1)) (nI s) (if sgB (b s) = true then nI (b s) else 3) nu wd tx wr pi pd op iw) := by
    intro h6
    unfold wM_nextToken_272
    rw [mA_at, m_byte T (by omega)]
    simp only [p_all]
    rw [mA_s_token, mA_at, mA_s_at, mA_s_token, mA_at, mA_s_at, nI_1]
    by_cases lt : s + 1 < n
    · have hb1 := (T.2.2.2 (s + 1) lt).2.2
      rw [bt_in lt]
      have e61 : (nI (b (s + 1)) = 61) = (b (s + 1) = 61) := propext (nI_eq (b := 61) (by omega) (by decide))
      rw [e61]
      refine p_two (fun q => ?_) (fun q => ?_)
      · rw [show (decide (s + 1 < n) && (b (s + 1) == 61)) = true by rw [decide_eq_true lt, q]; rfl] at hp
        rcases h6 with e | e
        · rw [e] at hp ⊢
          exact p_yes rfl hp
        · rw [e] at hp ⊢
          exact p_no (by decide) hp
      · rw [show (decide (s + 1 < n) && (b (s + 1) == 61)) = false by rw [beq_false_of_ne q, Bool.and_false]] at hp
        rcases h6 with e | e
        · rw [e] at hp ⊢
          exact hp
        · rw [e] at hp ⊢
          exact hp
    · rw [bt_out lt]
      refine p_no (by decide) ?_
      rw [show (decide (s + 1 < n) && (b (s + 1) == 61)) = false by rw [decide_eq_false lt, Bool.false_and]] at hp
      rcases h6 with e | e
      · rw [e] at hp ⊢
        exact hp
      · rw [e] at hp ⊢
        exact hp
  unfold wM_nextToken_247
  simp only [p_all]
  rw [mA_s_token, mA_at, mA_s_at, nI_1]
  refine p_two (fun q => tail (Or.inl (k60.mp q))) (fun q => p_two (fun q2 => tail (Or.inr (k62.mp q2))) (fun q2 => ?_))
  have el := sg_else (eq := (decide (s + 1 < n) && (b (s + 1) == 61))) (fun z => q (k60.mpr z)) (fun z => q2 (k62.mpr z))
  rw [el.2] at hp
  have et : sgT (b s) (decide (s + 1 < n) && (b (s + 1) == 61)) = (if sgB (b s) = true then nI (b s) else 3) := by
    unfold sgT
    rw [if_neg (fun z => q (k60.mpr z.1)), if_neg (fun z => q2 (k62.mpr z.1))]
  rw [et] at hp
  exact hp
/-! a token on both sides -/
theorem sim_adv {S : CS} {M : MS} {n : Nat} {b : Nat → Nat} (T : TP S M n b) {p : Nat} (hp : p ≤ n) : ∃ (ct s e nc nr : Nat) (tk : Int32) (wv : Int64), (p ≤ s ∧ s ≤ e ∧ e ≤ n ∧ (ct = 31 → s = n) ∧ (ct ≠ 31 → s < e)) ∧ TokF b s e ct tk wv ∧ (ct = 32 → nr ≤ 999999 ∧ (nr ≤ 9999 → nc = nr) ∧ (9999 < nr → nc = 10000)) ∧ (∀ (tk0 sa nu : Int32) (cd : Nat → Int32) (cl op : Int32), rv (wC_X6_advance (cA S tk0 sa (nI p) nu cd cl op 0)) (cA S (nI ct) (nI s) (nI e) (if ct = 32 then nI nc else nu) cd cl op 0)) ∧ (∀ (pl tk0 nu : Int32) (wd : Int64) (tx : Nat → Int32) (wr : Int32) (pi : Nat → Int32) (pd op iw : Int32), rv (wM_nextToken (mA M (nI p) pl tk0 nu wd tx wr pi pd op iw)) (mA M (nI e) (nI s) tk (if ct = 32 then nI nr else nu) (if tk = 2 then wv else wd) tx wr pi pd op iw)) := by
  have hn := T.1
  obtain ⟨s, es⟩ : ∃ s, s = spn (fun i => blB (b i)) (n - p) p := ⟨_, rfl⟩
  obtain ⟨g1, g2, g3⟩ := spn_le (fun i => blB (b i)) (n - p) p
  rw [← es] at g1 g2
  have cls : ∀ (tk0 sa nu : Int32) (cd : Nat → Int32) (cl op : Int32) (post : CS → Prop), wC_X6_advance_49 post (cA S tk0 sa (nI s) nu cd cl op 0) → wC_X6_advance (cA S tk0 sa (nI p) nu cd cl op 0) post := by
    intro tk0 sa nu cd cl op post h
    unfold wC_X6_advance
    rw [cA_fault]
    exact p_yes rfl ⟨n - p + 1, q_skip T tk0 sa nu cd cl op post (n - p) p (by omega) es h⟩
  have ref : ∀ (pl tk0 nu : Int32) (wd : Int64) (tx : Nat → Int32) (wr : Int32) (pi : Nat → Int32) (pd op iw : Int32) (post : MS → Prop), mBody post (mA M (nI s) pl tk0 nu wd tx wr pi pd op iw) → wM_nextToken (mA M (nI p) pl tk0 nu wd tx wr pi pd op iw) post := fun pl tk0 nu wd tx wr pi pd op iw post h => ⟨n - p + 1, m_skip T pl tk0 nu wd tx wr pi pd op iw post (n - p) p (by omega) es h⟩
  by_cases lt : s < n
  · have hb := (T.2.2.2 s lt).2.2
    have tc := tape_C T lt
    -- what both come to at a byte
    have cls2 : ∀ (tk0 sa nu : Int32) (cd : Nat → Int32) (cl op : Int32) (post : CS → Prop), ((leB (b s) = true → wC_X6_takeWord (cA S tk0 (nI s) (nI s) nu cd cl op 0) post) ∧ (¬ leB (b s) = true → ((fiB (b s) = true → wC_X6_takeNumber (cA S tk0 (nI s) (nI s) nu cd cl op 0) post) ∧ (¬ fiB (b s) = true → wC_X6_takeSign (nI (b s)) (cA S tk0 (nI s) (nI s) nu cd cl op 0) post)))) → wC_X6_advance_49 post (cA S tk0 sa (nI s) nu cd cl op 0) := by
      intro tk0 sa nu cd cl op post h
      unfold wC_X6_advance_49
      rw [p_all, cA_place, cA_s_start, cA_place, cA_length, cA_tape, T.2.1, tc, q_isLetter hb, p_b0]
      try dsimp only
      rw [q_isDigit hb, p_b0]
      refine p_yes (nI_lt lt (by omega)) ?_
      by_cases c1 : leB (b s) = true
      · exact p_val c1 (h.1 c1)
      · refine p_yes c1 ?_
        by_cases c2 : fiB (b s) = true
        · exact p_val c2 ((h.2 c1).1 c2)
        · exact p_yes c2 ((h.2 c1).2 c2)
    have ref2 : ∀ (pl tk0 nu : Int32) (wd : Int64) (tx : Nat → Int32) (wr : Int32) (pi : Nat → Int32) (pd op iw : Int32) (post : MS → Prop), ((leB (b s) = true → fiB (b s) = false → ∃ k, wM_nextToken_168 post k (mA M (nI s) (nI s) 2 nu (lN 0) tx wr pi pd op iw)) ∧ (fiB (b s) = true → ∃ k, wM_nextToken_85 post k (mA M (nI s) (nI s) 1 (nI 0) wd tx wr pi pd op iw)) ∧ (leB (b s) = false → fiB (b s) = false → wM_nextToken_247 post (nI (b s)) (if sgB (b s) = true then nI (b s) else 3) (mA M (nI s) (nI s) tk0 nu wd tx wr pi pd op iw))) → mBody post (mA M (nI s) pl tk0 nu wd tx wr pi pd op iw) := by
      intro pl tk0 nu wd tx wr pi pd op iw post h
      unfold mBody
      rw [p_all, mA_at, mA_s_place, mA_at, m_byte T (by omega), bt_in lt, m_isFigure (tk_fi (b s) (by omega)), p_b0]
      try dsimp only
      rw [m_isLetter (tk_le (b s) (by omega)), p_b0]
      simp only [p_all]
      refine p_yes (nI_pos' (by omega)) ?_
      by_cases c2 : fiB (b s) = true
      · refine p_val c2 ?_
        rw [mA_s_token, mA_s_number]
        exact h.2.1 c2
      · have c2' : fiB (b s) = false := by
          cases q : fiB (b s)
          · rfl
          · exact absurd q c2
        refine p_yes c2 ?_
        by_cases c1 : leB (b s) = true
        · refine p_val c1 ?_
          rw [mA_s_token, mA_s_word]
          exact h.1 c1 c2'
        · have c1' : leB (b s) = false := by
            cases q : leB (b s)
            · rfl
            · exact absurd q c1
          refine p_yes c1 (m_isSign hb _ _ ?_)
          have q := h.2.2 c1' c2'
          by_cases c3 : sgB (b s) = true
          · rw [if_pos c3] at q ⊢
            exact p_no (by decide) q
          · rw [if_neg c3] at q ⊢
            exact p_yes rfl q
    by_cases c1 : leB (b s) = true
    · -- a word
      obtain ⟨e, ee⟩ : ∃ e, e = spn (fun i => leB (b i)) (n - s) s := ⟨_, rfl⟩
      obtain ⟨w1, w2, w3⟩ := spn_le (fun i => leB (b i)) (n - s) s
      rw [← ee] at w1 w2 w3
      have se : s < e := by
        obtain ⟨d, hd⟩ : ∃ d, n - s = d + 1 := ⟨n - s - 1, by omega⟩
        have e2 : spn (fun i => leB (b i)) (d + 1) s = spn (fun i => leB (b i)) d (s + 1) := if_pos c1
        rw [hd, e2] at ee
        have := (spn_le (fun i => leB (b i)) d (s + 1)).1
        omega
      have lb : ∀ j, j < e - s → 1 ≤ b (s + j) ∧ b (s + j) ≤ 255 := by
        intro j hj
        have q : leB (b (s + j)) = true := w3 (s + j) (by omega) (by omega)
        unfold leB at q
        have q1 := Bool.or_eq_true_iff.mp q
        rcases q1 with q1 | q1
        · have q2 := Bool.and_eq_true_iff.mp q1
          have := of_decide_eq_true q2.1
          have := of_decide_eq_true q2.2
          omega
        · have q2 := Bool.and_eq_true_iff.mp q1
          have := of_decide_eq_true q2.1
          have := of_decide_eq_true q2.2
          omega
      have nf : fiB (b s) = false := by
        have q := c1
        unfold leB at q
        have q1 := Bool.or_eq_true_iff.mp q
        unfold fiB
        rcases q1 with q1 | q1
        · have q2 := Bool.and_eq_true_iff.mp q1
          have := of_decide_eq_true q2.1
          rw [decide_eq_false (show ¬ b s ≤ 57 by omega), Bool.and_false]
        · have q2 := Bool.and_eq_true_iff.mp q1
          have := of_decide_eq_true q2.1
          rw [decide_eq_false (show ¬ b s ≤ 57 by omega), Bool.and_false]
      obtain ⟨c, hc, hw⟩ : ∃ c, wIx b s e c ∧ ∀ (nu : Int32) (cd : Nat → Int32) (cl op : Int32) (post : CS → Prop), post (cA S (nI c) (nI s) (nI e) nu cd cl op 0) → ∃ N, wC_X6_takeWord_59 post N (nI 0) (nI s) 1 (nI (wSt 0)) (cA S 30 (nI s) (nI e) nu cd cl op 0) := by
        obtain ⟨c, hc, _⟩ := q_words T w1 (show e ≤ n by omega) 0 (fun _ => 0) 0 0 0 30 0 (by omega) (fun j hj => absurd hj (Nat.not_lt_zero j))
        refine ⟨c, hc, ?_⟩
        intro nu cd cl op post hpp
        obtain ⟨c', hc', h⟩ := q_words T w1 (show e ≤ n by omega) nu cd cl op 0 30 0 (by omega) (fun j hj => absurd hj (Nat.not_lt_zero j))
        have ec : c' = c := by
          rcases hc with ⟨a1, a2, a3⟩ | ⟨a1, a2⟩
          · exact (wIx_eq hc' a1).mp a2
          · rcases hc' with ⟨b1, b2, b3⟩ | ⟨b1, b2⟩
            · exact absurd b2 (a2 c' b1)
            · omega
        rw [ec] at h
        exact h post hpp
      have c30 : c ≤ 30 := by
        rcases hc with q | q
        · omega
        · omega
      refine ⟨c, s, e, 0, 0, 2, lN (wdV b s (e - s)), ⟨g1, w1, by omega, fun z => by omega, fun _ => se⟩, ⟨fun _ => rfl, fun z => by omega, fun z => by omega, fun z => by omega, fun _ => Or.inl rfl, fun _ => ⟨c30, fun i hi => Or.inl (wd_word w1 lb hc hi), wIx_eq hc (by decide)⟩, by omega⟩, fun z => by omega, ?_, ?_⟩
      · intro tk0 sa nu cd cl op post hpp
        rw [if_neg (by omega)] at hpp
        refine cls tk0 sa nu cd cl op post (cls2 tk0 sa nu cd cl op post ⟨fun _ => ?_, fun z => absurd c1 z⟩)
        exact ⟨n - s + 1, q_takeWord T tk0 nu cd cl op post (n - s) s (Nat.le_refl _) (by omega) ee (hw nu cd cl op post hpp)⟩
      · intro pl tk0 nu wd tx wr pi pd op iw post hpp
        rw [if_neg (by omega), if_pos rfl] at hpp
        refine ref pl tk0 nu wd tx wr pi pd op iw post (ref2 pl tk0 nu wd tx wr pi pd op iw post ⟨fun _ _ => ⟨n - s + 1, ?_⟩, fun z => by (rw [nf] at z; cases z), fun z => by (rw [c1] at z; cases z)⟩)
        have q := m_letters T (s := s) (e := e) (nI s) 2 nu tx wr pi pd op iw post hpp (n - s) s (Nat.le_refl _) (by omega) ee (fun i h1 h2 => by omega)
        rw [Nat.sub_self] at q
        exact q
    · have c1' : leB (b s) = false := by
        cases q : leB (b s)
        · rfl
        · exact absurd q c1
      by_cases c2 : fiB (b s) = true
      · -- a number
        obtain ⟨e, ee⟩ : ∃ e, e = spn (fun i => fiB (b i)) (n - s) s := ⟨_, rfl⟩
        obtain ⟨w1, w2, w3⟩ := spn_le (fun i => fiB (b i)) (n - s) s
        rw [← ee] at w1 w2 w3
        have se : s < e := by
          obtain ⟨d, hd⟩ : ∃ d, n - s = d + 1 := ⟨n - s - 1, by omega⟩
          have e2 : spn (fun i => fiB (b i)) (d + 1) s = spn (fun i => fiB (b i)) d (s + 1) := if_pos c2
          rw [hd, e2] at ee
          have := (spn_le (fun i => fiB (b i)) d (s + 1)).1
          omega
        obtain ⟨n1, n2, n3, n4⟩ := nu_eq (b := b) (s := s) (e - s) (by
          intro j hj
          have q : fiB (b (s + j)) = true := w3 (s + j) (by omega) (by omega)
          unfold fiB at q
          have q1 := Bool.and_eq_true_iff.mp q
          exact ⟨of_decide_eq_true q1.1, of_decide_eq_true q1.2⟩)
        refine ⟨32, s, e, cNu b s (e - s), rNu b s (e - s), 1, 0, ⟨g1, w1, by omega, fun z => by omega, fun _ => se⟩, ⟨fun z => by omega, fun z => by omega, fun _ => rfl, fun z => by omega, fun z => by omega, fun z => absurd z (by decide), by omega⟩, fun _ => ⟨n1, n3, n4⟩, ?_, ?_⟩
        · intro tk0 sa nu cd cl op post hpp
          rw [if_pos rfl] at hpp
          refine cls tk0 sa nu cd cl op post (cls2 tk0 sa nu cd cl op post ⟨fun z => absurd z c1, fun _ => ⟨fun _ => ?_, fun z => absurd c2 z⟩⟩)
          unfold wC_X6_takeNumber
          rw [p_all, cA_s_number]
          refine ⟨n - s + 1, ?_⟩
          have q := q_takeNumber T (s := s) (e := e) tk0 cd cl op post hpp (n - s) s (Nat.le_refl _) (by omega) ee (fun i h1 h2 => by omega)
          rw [Nat.sub_self] at q
          exact q
        · intro pl tk0 nu wd tx wr pi pd op iw post hpp
          rw [if_pos rfl, if_neg (by decide)] at hpp
          refine ref pl tk0 nu wd tx wr pi pd op iw post (ref2 pl tk0 nu wd tx wr pi pd op iw post ⟨fun z => absurd z c1, fun _ => ⟨n - s + 1, ?_⟩, fun _ z => by (rw [c2] at z; cases z)⟩)
          have q := m_digits T (s := s) (e := e) (nI s) 1 wd tx wr pi pd op iw post hpp (n - s) s (Nat.le_refl _) (by omega) ee (fun i h1 h2 => by omega)
          rw [Nat.sub_self] at q
          exact q
      · -- a sign
        have c2' : fiB (b s) = false := by
          cases q : fiB (b s)
          · rfl
          · exact absurd q c2
        obtain ⟨eq, eeq⟩ : ∃ eq, eq = (decide (s + 1 < n) && (b (s + 1) == 61)) := ⟨_, rfl⟩
        have F := sg_TokF (b s) (by omega) c1' c2' eq
        have ce : 1 ≤ sgE (b s) eq ∧ s + sgE (b s) eq ≤ n := by
          unfold sgE
          by_cases z : (b s = 60 ∨ b s = 62) ∧ eq = true
          · rw [if_pos z]
            have q := z.2
            rw [eeq] at q
            have := of_decide_eq_true (Bool.and_eq_true_iff.mp q).1
            omega
          · rw [if_neg z]
            omega
        have c45 : sgC (b s) eq ≤ 45 ∧ 30 ≤ sgC (b s) eq ∧ sgC (b s) eq ≠ 31 ∧ sgC (b s) eq ≠ 32 := by
          rcases F with z | z <;> omega
        refine ⟨sgC (b s) eq, s, s + sgE (b s) eq, 0, 0, sgT (b s) eq, 0, ⟨g1, by omega, ce.2, fun z => absurd z c45.2.2.1, fun _ => by omega⟩, ⟨fun z => by omega, fun z => absurd z c45.2.2.1, fun z => absurd z c45.2.2.2, ?_, ?_, ?_, c45.1⟩, fun z => absurd z c45.2.2.2, ?_, ?_⟩
        · intro h1 _
          rcases F with z | z
          · exact z.2.2.1
          · omega
        · intro h1
          rcases F with z | z
          · omega
          · exact Or.inr z.2
        · intro z
          rcases F with q | q
          · exact absurd z q.2.2.2
          · rcases q.2 with q | q
            · rw [q] at z
              exact absurd z (by decide)
            · rw [q] at z
              exact absurd z (by decide)
        · intro tk0 sa nu cd cl op post hpp
          rw [if_neg c45.2.2.2, eeq] at hpp
          exact cls tk0 sa nu cd cl op post (cls2 tk0 sa nu cd cl op post ⟨fun z => absurd z c1, fun _ => ⟨fun z => absurd z c2, fun _ => q_takeSign T lt tk0 nu cd cl op post hpp⟩⟩)
        · intro pl tk0 nu wd tx wr pi pd op iw post hpp
          have n2 : ¬ sgT (b s) eq = 2 := by
            rcases F with q | q
            · exact q.2.2.2
            · intro z
              rcases q.2 with q | q
              · rw [q] at z
                exact absurd z (by decide)
              · rw [q] at z
                exact absurd z (by decide)
          rw [if_neg c45.2.2.2, if_neg n2, eeq] at hpp
          exact ref pl tk0 nu wd tx wr pi pd op iw post (ref2 pl tk0 nu wd tx wr pi pd op iw post ⟨fun z => absurd z c1, fun z => absurd z c2, fun _ _ => m_sign T lt tk0 nu wd tx wr pi pd op iw post hpp⟩)
  · -- the end
    have es2 : s = n := by omega
    refine ⟨31, s, s, 0, 0, 0, 0, ⟨g1, Nat.le_refl _, by omega, fun _ => es2, fun z => absurd rfl z⟩, ⟨fun z => by omega, fun _ => rfl, fun z => by omega, fun z => by omega, fun z => by omega, fun z => absurd z (by decide), by omega⟩, fun z => by omega, ?_, ?_⟩
    · intro tk0 sa nu cd cl op post hpp
      rw [if_neg (by decide)] at hpp
      refine cls tk0 sa nu cd cl op post ?_
      unfold wC_X6_advance_49
      rw [p_all, cA_place, cA_s_start, cA_place, cA_length, T.2.1, p_all, cA_s_token]
      exact p_no (nI_nlt (by omega) (by omega)) hpp
    · intro pl tk0 nu wd tx wr pi pd op iw post hpp
      rw [if_neg (by decide), if_neg (by decide)] at hpp
      refine ref pl tk0 nu wd tx wr pi pd op iw post ?_
      unfold mBody
      rw [p_all, mA_at, mA_s_place, mA_at, m_byte T (by omega), bt_out lt, p_all, mA_s_token]
      exact p_no (by decide) hpp
