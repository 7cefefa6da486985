/-! PURE LAYER, leaves: what the small methods come to -/
theorem p_b0 (c : Prop) [Decidable c] : ((if c then (1 : Int32) else 0) = 0) = ¬ c := by
  by_cases h : c
  · simp [h]
  · simp [h]
theorem p_nb (c : Prop) [Decidable c] : (narrow .boolean (.int (if c then (1 : Int32) else 0)) = .int (if c then (1 : Int32) else 0)) = True := by
  by_cases h : c
  · rw [if_pos h]
    exact eq_true rfl
  · rw [if_neg h]
    exact eq_true rfl
theorem p_T {c A B : Prop} (h : c) : ((c → A) ∧ (¬ c → B)) = A := propext ⟨fun q => q.1 h, fun q => ⟨fun _ => q, fun n => absurd h n⟩⟩
theorem p_F {c A B : Prop} (h : ¬ c) : ((c → A) ∧ (¬ c → B)) = B := propext ⟨fun q => q.2 h, fun q => ⟨fun n => absurd n h, fun _ => q⟩⟩
theorem p_vp {n N : Nat} (h : n < N) (hN : N < 2 ^ 31) (A : Prop) : (vp_in (nI n) N ∧ A) = A := propext ⟨fun q => q.2, fun q => ⟨vp_in_nI h hN, q⟩⟩
theorem q_within (p l h : Int32) (S : CS) (post : Int32 → CS → Prop) : wC_X11_within p l h S post = post (if l ≤ p ∧ p ≤ h then 1 else 0) S := by
  unfold wC_X11_within
  by_cases h1 : p < l
  · rw [p_T h1, if_neg (fun q => Int32.not_le.mpr h1 q.1)]
  · rw [p_F h1]
    by_cases h2 : h < p
    · rw [p_T h2, if_neg (fun q => Int32.not_le.mpr h2 q.2)]
    · rw [p_F h2, if_pos ⟨Int32.not_lt.mp h1, Int32.not_lt.mp h2⟩]
theorem m_isIn (p l h : Int32) (S : MS) (post : Int32 → MS → Prop) : wM_isIn p l h S post = post (if l ≤ p ∧ p ≤ h then 1 else 0) S := by
  unfold wM_isIn
  by_cases h1 : p < l
  · rw [p_T h1, if_neg (fun q => Int32.not_le.mpr h1 q.1)]
  · rw [p_F h1]
    by_cases h2 : h < p
    · rw [p_T h2, if_neg (fun q => Int32.not_le.mpr h2 q.2)]
    · rw [p_F h2, if_pos ⟨Int32.not_lt.mp h1, Int32.not_lt.mp h2⟩]
theorem q_isFall (p : Int32) (S : CS) (post : Int32 → CS → Prop) : wC_X11_isFall p S post = post (if 0 ≤ p ∧ p ≤ 4 then 1 else 0) S := by
  unfold wC_X11_isFall
  rw [q_within]
  simp only [p_nb, true_and]
theorem q_isMood (p : Int32) (S : CS) (post : Int32 → CS → Prop) : wC_X11_isMood p S post = post (if 0 ≤ p ∧ p ≤ 9 then 1 else 0) S := by
  unfold wC_X11_isMood
  rw [q_within]
  simp only [p_nb, true_and]
theorem m_isKind (p : Int32) (S : MS) (post : Int32 → MS → Prop) : wM_isKind p S post = post (if 0 ≤ p ∧ p ≤ 4 then 1 else 0) S := by
  unfold wM_isKind
  rw [m_isIn]
  simp only [p_nb, true_and]
theorem p_lt1 {x y : Int32} (h : 0 ≤ y ∧ y ≤ 100) : (x ≤ y - 1) = (x < y) := by
  apply propext
  grind
theorem m_isHouse (p : Int32) {S : MS} (h : 0 ≤ ms_a S 0 ∧ ms_a S 0 ≤ 6) (post : Int32 → MS → Prop) : wM_isHouse p S post = post (if 0 ≤ p ∧ p < ms_a S 0 then 1 else 0) S := by
  unfold wM_isHouse
  rw [m_isIn]
  simp only [p_nb, true_and, p_lt1 ⟨h.1, Int32.le_trans h.2 (by decide)⟩]
theorem m_isClown (p : Int32) {S : MS} (h : 0 ≤ ms_a S 1 ∧ ms_a S 1 ≤ 5) (post : Int32 → MS → Prop) : wM_isClown p S post = post (if 0 ≤ p ∧ p < ms_a S 1 then 1 else 0) S := by
  unfold wM_isClown
  rw [m_isIn]
  simp only [p_nb, true_and, p_lt1 ⟨h.1, Int32.le_trans h.2 (by decide)⟩]
theorem p_atL (f : Nat → Int32) {n : Nat} (hn : n < 2 ^ 31) (m : Nat) (h : m < n) : k_at n f (no_index (OfNat.ofNat m)) = f m := p_at hn f h
theorem p_putL (f : Nat → Int32) {n : Nat} (hn : n < 2 ^ 31) (m : Nat) (h : m < n) (v : Int32) : k_put n f (no_index (OfNat.ofNat m)) v = upd f m v := p_put hn f h v
theorem q_hasHouse (p : Int32) (S : CS) (post : Int32 → CS → Prop) : wC_X0_hasHouse p S post = post (if 0 ≤ p ∧ p < cx_c_now S 72 then 1 else 0) S := by
  unfold wC_X0_hasHouse
  rw [p_atL _ (by decide) 72 (by decide)]
  by_cases h1 : p < 0
  · rw [p_T h1, if_neg (fun q => Int32.not_le.mpr h1 q.1)]
  · rw [p_F h1]
    by_cases h2 : cx_c_now S 72 ≤ p
    · rw [p_T h2, if_neg (fun q => Int32.not_lt.mpr h2 q.2)]
    · rw [p_F h2, if_pos ⟨Int32.not_lt.mp h1, Int32.not_le.mp h2⟩]
theorem q_hasClown (p : Int32) (S : CS) (post : Int32 → CS → Prop) : wC_X0_hasClown p S post = post (if 0 ≤ p ∧ p < cx_c_now S 73 then 1 else 0) S := by
  unfold wC_X0_hasClown
  rw [p_atL _ (by decide) 73 (by decide)]
  by_cases h1 : p < 0
  · rw [p_T h1, if_neg (fun q => Int32.not_le.mpr h1 q.1)]
  · rw [p_F h1]
    by_cases h2 : cx_c_now S 73 ≤ p
    · rw [p_T h2, if_neg (fun q => Int32.not_lt.mpr h2 q.2)]
    · rw [p_F h2, if_pos ⟨Int32.not_lt.mp h1, Int32.not_le.mp h2⟩]
theorem q_see_grief {h : Nat} (hh : h < 6) (S : CS) (post : Int32 → CS → Prop) : wC_X0_see 0 (nI h) S post = post (cx_c_now S h) S := by
  unfold wC_X0_see
  rw [nI_la 0 h, p_at (by decide) _ (by omega)]
  rw [Nat.zero_add]
theorem q_set_grief {h : Nat} (hh : h < 6) (v : Int32) (S : CS) (post : CS → Prop) : wC_X0_set 0 (nI h) v S post = post (cx_set_c_now S (upd (cx_c_now S) h v)) := by
  unfold wC_X0_set
  rw [p_all, nI_la 0 h, p_put (by decide) _ (by omega)]
  rw [Nat.zero_add]
theorem q_see_mood {h : Nat} (hh : h < 6) (S : CS) (post : Int32 → CS → Prop) : wC_X0_see 6 (nI h) S post = post (cx_c_now S (6 + h)) S := by
  unfold wC_X0_see
  rw [nI_la 6 h, p_at (by decide) _ (by omega)]
theorem q_set_mood {h : Nat} (hh : h < 6) (v : Int32) (S : CS) (post : CS → Prop) : wC_X0_set 6 (nI h) v S post = post (cx_set_c_now S (upd (cx_c_now S) (6 + h) v)) := by
  unfold wC_X0_set
  rw [p_all, nI_la 6 h, p_put (by decide) _ (by omega)]
theorem q_see_clock {h : Nat} (hh : h < 6) (S : CS) (post : Int32 → CS → Prop) : wC_X0_see 12 (nI h) S post = post (cx_c_now S (12 + h)) S := by
  unfold wC_X0_see
  rw [nI_la 12 h, p_at (by decide) _ (by omega)]
theorem q_set_clock {h : Nat} (hh : h < 6) (v : Int32) (S : CS) (post : CS → Prop) : wC_X0_set 12 (nI h) v S post = post (cx_set_c_now S (upd (cx_c_now S) (12 + h) v)) := by
  unfold wC_X0_set
  rw [p_all, nI_la 12 h, p_put (by decide) _ (by omega)]
theorem q_see_laughed {h : Nat} (hh : h < 6) (S : CS) (post : Int32 → CS → Prop) : wC_X0_see 18 (nI h) S post = post (cx_c_now S (18 + h)) S := by
  unfold wC_X0_see
  rw [nI_la 18 h, p_at (by decide) _ (by omega)]
theorem q_set_laughed {h : Nat} (hh : h < 6) (v : Int32) (S : CS) (post : CS → Prop) : wC_X0_set 18 (nI h) v S post = post (cx_set_c_now S (upd (cx_c_now S) (18 + h) v)) := by
  unfold wC_X0_set
  rw [p_all, nI_la 18 h, p_put (by decide) _ (by omega)]
theorem q_see_tired {h : Nat} (hh : h < 5) (S : CS) (post : Int32 → CS → Prop) : wC_X0_see 24 (nI h) S post = post (cx_c_now S (24 + h)) S := by
  unfold wC_X0_see
  rw [nI_la 24 h, p_at (by decide) _ (by omega)]
theorem q_set_tired {h : Nat} (hh : h < 5) (v : Int32) (S : CS) (post : CS → Prop) : wC_X0_set 24 (nI h) v S post = post (cx_set_c_now S (upd (cx_c_now S) (24 + h) v)) := by
  unfold wC_X0_set
  rw [p_all, nI_la 24 h, p_put (by decide) _ (by omega)]
theorem q_see_place {h : Nat} (hh : h < 5) (S : CS) (post : Int32 → CS → Prop) : wC_X0_see 29 (nI h) S post = post (cx_c_now S (29 + h)) S := by
  unfold wC_X0_see
  rw [nI_la 29 h, p_at (by decide) _ (by omega)]
theorem q_set_place {h : Nat} (hh : h < 5) (v : Int32) (S : CS) (post : CS → Prop) : wC_X0_set 29 (nI h) v S post = post (cx_set_c_now S (upd (cx_c_now S) (29 + h) v)) := by
  unfold wC_X0_set
  rw [p_all, nI_la 29 h, p_put (by decide) _ (by omega)]
theorem q_see_falls {h : Nat} (hh : h < 5) (S : CS) (post : Int32 → CS → Prop) : wC_X0_see 34 (nI h) S post = post (cx_c_now S (34 + h)) S := by
  unfold wC_X0_see
  rw [nI_la 34 h, p_at (by decide) _ (by omega)]
theorem q_set_falls {h : Nat} (hh : h < 5) (v : Int32) (S : CS) (post : CS → Prop) : wC_X0_set 34 (nI h) v S post = post (cx_set_c_now S (upd (cx_c_now S) (34 + h) v)) := by
  unfold wC_X0_set
  rw [p_all, nI_la 34 h, p_put (by decide) _ (by omega)]
theorem q_see_book {h : Nat} (hh : h < 30) (S : CS) (post : Int32 → CS → Prop) : wC_X0_see 42 (nI h) S post = post (cx_c_now S (42 + h)) S := by
  unfold wC_X0_see
  rw [nI_la 42 h, p_at (by decide) _ (by omega)]
theorem q_set_book {h : Nat} (hh : h < 30) (v : Int32) (S : CS) (post : CS → Prop) : wC_X0_set 42 (nI h) v S post = post (cx_set_c_now S (upd (cx_c_now S) (42 + h) v)) := by
  unfold wC_X0_set
  rw [p_all, nI_la 42 h, p_put (by decide) _ (by omega)]
theorem q_see_draw (S : CS) (post : Int32 → CS → Prop) : wC_X0_see 40 0 S post = post (cx_c_now S 40) S := by
  unfold wC_X0_see
  rw [show (40 : Int32) + 0 = nI 40 from rfl, p_at (by decide) _ (by decide)]
theorem q_set_draw (v : Int32) (S : CS) (post : CS → Prop) : wC_X0_set 40 0 v S post = post (cx_set_c_now S (upd (cx_c_now S) 40 v)) := by
  unfold wC_X0_set
  rw [p_all, show (40 : Int32) + 0 = nI 40 from rfl, p_put (by decide) _ (by decide)]
theorem q_see_written (S : CS) (post : Int32 → CS → Prop) : wC_X0_see 41 0 S post = post (cx_c_now S 41) S := by
  unfold wC_X0_see
  rw [show (41 : Int32) + 0 = nI 41 from rfl, p_at (by decide) _ (by decide)]
theorem q_set_written (v : Int32) (S : CS) (post : CS → Prop) : wC_X0_set 41 0 v S post = post (cx_set_c_now S (upd (cx_c_now S) 41 v)) := by
  unfold wC_X0_set
  rw [p_all, show (41 : Int32) + 0 = nI 41 from rfl, p_put (by decide) _ (by decide)]
theorem q_see_today (S : CS) (post : Int32 → CS → Prop) : wC_X0_see 39 0 S post = post (cx_c_now S 39) S := by
  unfold wC_X0_see
  rw [show (39 : Int32) + 0 = nI 39 from rfl, p_at (by decide) _ (by decide)]
theorem q_set_today (v : Int32) (S : CS) (post : CS → Prop) : wC_X0_set 39 0 v S post = post (cx_set_c_now S (upd (cx_c_now S) 39 v)) := by
  unfold wC_X0_set
  rw [p_all, show (39 : Int32) + 0 = nI 39 from rfl, p_put (by decide) _ (by decide)]
theorem q_today (S : CS) (post : Int32 → CS → Prop) : wC_X0_today S post = post (cx_c_now S 39) S := by
  unfold wC_X0_today
  rw [p_atL _ (by decide) 39 (by decide)]
theorem q_turned {f m : Nat} (hf : f < 5) (hm : m < 10) (S : CS) (post : Int32 → CS → Prop) : wC_X0_turned (nI f) (nI m) S post = post (cx_c_turns S (10 * f + m)) S := by
  unfold wC_X0_turned
  rw [nI_ml 10 f, nI_add, p_at (by decide) _ (by omega), Nat.mul_comm f 10]
theorem q_houseCount {S : CS} (h : cx_c_now S 72 ≤ 6) (post : Int32 → CS → Prop) : wC_X0_houseCount S post = post (cx_c_now S 72) S := by
  unfold wC_X0_houseCount
  rw [p_atL _ (by decide) 72 (by decide), if_neg (Int32.not_lt.mpr h)]
theorem q_clownCount {S : CS} (h : cx_c_now S 73 ≤ 5) (post : Int32 → CS → Prop) : wC_X0_clownCount S post = post (cx_c_now S 73) S := by
  unfold wC_X0_clownCount
  rw [p_atL _ (by decide) 73 (by decide), if_neg (Int32.not_lt.mpr h)]
theorem q_isOut {p : Int32} {S : CS} (h : cx_c_now S 73 ≤ 5) (post : Int32 → CS → Prop) : wC_X0_isOut p S post = post (if (0 ≤ p ∧ p < cx_c_now S 73) ∧ ¬ cx_c_now S (29 + p.toNatClampNeg) = -1 then 1 else 0) S := by
  unfold wC_X0_isOut
  rw [q_hasClown, p_b0]
  by_cases c : 0 ≤ p ∧ p < cx_c_now S 73
  · obtain ⟨j, hj, rfl⟩ := p_rng (n := 5) (by decide) c.1 (Int32.lt_of_lt_of_le c.2 h)
    rw [p_F (fun n => n c), q_see_place hj, nI_clamp (by omega)]
    by_cases d : cx_c_now S (29 + j) = -1
    · rw [p_T d, if_neg (fun q => q.2 d)]
    · rw [p_F d, if_pos ⟨c, d⟩]
  · rw [p_T c, if_neg (fun q => c q.1)]
theorem m_get_grief {h : Nat} (hh : h < 6) (S : MS) (post : Int32 → MS → Prop) : wM_get (nI h) 0 S post = post (ms_a S (10 + 6 * h)) S := by
  unfold wM_get
  rw [nI_lm 6 h, nI_la 10 (6 * h), nI_al 0 (10 + 6 * h), p_vp (by omega) (by decide), nI_clamp (by omega), show 10 + 6 * h + 0 = 10 + 6 * h by omega]
theorem m_put_grief {h : Nat} (hh : h < 6) (v : Int32) (S : MS) (post : MS → Prop) : wM_put (nI h) 0 v S post = post (ms_set_a S (upd (ms_a S) (10 + 6 * h) v)) := by
  unfold wM_put
  rw [nI_lm 6 h, nI_la 10 (6 * h), nI_al 0 (10 + 6 * h), p_vp (by omega) (by decide), p_all, nI_clamp (by omega), show 10 + 6 * h + 0 = 10 + 6 * h by omega]
theorem m_get_mood {h : Nat} (hh : h < 6) (S : MS) (post : Int32 → MS → Prop) : wM_get (nI h) 1 S post = post (ms_a S (11 + 6 * h)) S := by
  unfold wM_get
  rw [nI_lm 6 h, nI_la 10 (6 * h), nI_al 1 (10 + 6 * h), p_vp (by omega) (by decide), nI_clamp (by omega), show 10 + 6 * h + 1 = 11 + 6 * h by omega]
theorem m_put_mood {h : Nat} (hh : h < 6) (v : Int32) (S : MS) (post : MS → Prop) : wM_put (nI h) 1 v S post = post (ms_set_a S (upd (ms_a S) (11 + 6 * h) v)) := by
  unfold wM_put
  rw [nI_lm 6 h, nI_la 10 (6 * h), nI_al 1 (10 + 6 * h), p_vp (by omega) (by decide), p_all, nI_clamp (by omega), show 10 + 6 * h + 1 = 11 + 6 * h by omega]
theorem m_get_clock {h : Nat} (hh : h < 6) (S : MS) (post : Int32 → MS → Prop) : wM_get (nI h) 2 S post = post (ms_a S (12 + 6 * h)) S := by
  unfold wM_get
  rw [nI_lm 6 h, nI_la 10 (6 * h), nI_al 2 (10 + 6 * h), p_vp (by omega) (by decide), nI_clamp (by omega), show 10 + 6 * h + 2 = 12 + 6 * h by omega]
theorem m_put_clock {h : Nat} (hh : h < 6) (v : Int32) (S : MS) (post : MS → Prop) : wM_put (nI h) 2 v S post = post (ms_set_a S (upd (ms_a S) (12 + 6 * h) v)) := by
  unfold wM_put
  rw [nI_lm 6 h, nI_la 10 (6 * h), nI_al 2 (10 + 6 * h), p_vp (by omega) (by decide), p_all, nI_clamp (by omega), show 10 + 6 * h + 2 = 12 + 6 * h by omega]
theorem m_get_laughed {h : Nat} (hh : h < 6) (S : MS) (post : Int32 → MS → Prop) : wM_get (nI h) 3 S post = post (ms_a S (13 + 6 * h)) S := by
  unfold wM_get
  rw [nI_lm 6 h, nI_la 10 (6 * h), nI_al 3 (10 + 6 * h), p_vp (by omega) (by decide), nI_clamp (by omega), show 10 + 6 * h + 3 = 13 + 6 * h by omega]
theorem m_put_laughed {h : Nat} (hh : h < 6) (v : Int32) (S : MS) (post : MS → Prop) : wM_put (nI h) 3 v S post = post (ms_set_a S (upd (ms_a S) (13 + 6 * h) v)) := by
  unfold wM_put
  rw [nI_lm 6 h, nI_la 10 (6 * h), nI_al 3 (10 + 6 * h), p_vp (by omega) (by decide), p_all, nI_clamp (by omega), show 10 + 6 * h + 3 = 13 + 6 * h by omega]
theorem m_get_kind {h : Nat} (hh : h < 6) (S : MS) (post : Int32 → MS → Prop) : wM_get (nI h) 4 S post = post (ms_a S (14 + 6 * h)) S := by
  unfold wM_get
  rw [nI_lm 6 h, nI_la 10 (6 * h), nI_al 4 (10 + 6 * h), p_vp (by omega) (by decide), nI_clamp (by omega), show 10 + 6 * h + 4 = 14 + 6 * h by omega]
theorem m_put_kind {h : Nat} (hh : h < 6) (v : Int32) (S : MS) (post : MS → Prop) : wM_put (nI h) 4 v S post = post (ms_set_a S (upd (ms_a S) (14 + 6 * h) v)) := by
  unfold wM_put
  rw [nI_lm 6 h, nI_la 10 (6 * h), nI_al 4 (10 + 6 * h), p_vp (by omega) (by decide), p_all, nI_clamp (by omega), show 10 + 6 * h + 4 = 14 + 6 * h by omega]
theorem m_get_told {h : Nat} (hh : h < 6) (S : MS) (post : Int32 → MS → Prop) : wM_get (nI h) 5 S post = post (ms_a S (15 + 6 * h)) S := by
  unfold wM_get
  rw [nI_lm 6 h, nI_la 10 (6 * h), nI_al 5 (10 + 6 * h), p_vp (by omega) (by decide), nI_clamp (by omega), show 10 + 6 * h + 5 = 15 + 6 * h by omega]
theorem m_put_told {h : Nat} (hh : h < 6) (v : Int32) (S : MS) (post : MS → Prop) : wM_put (nI h) 5 v S post = post (ms_set_a S (upd (ms_a S) (15 + 6 * h) v)) := by
  unfold wM_put
  rw [nI_lm 6 h, nI_la 10 (6 * h), nI_al 5 (10 + 6 * h), p_vp (by omega) (by decide), p_all, nI_clamp (by omega), show 10 + 6 * h + 5 = 15 + 6 * h by omega]
theorem m_own_tired {h : Nat} (hh : h < 5) (S : MS) (post : Int32 → MS → Prop) : wM_own (nI h) 0 S post = post (ms_a S (46 + 5 * h)) S := by
  unfold wM_own
  rw [nI_lm 5 h, nI_la 46 (5 * h), nI_al 0 (46 + 5 * h), p_vp (by omega) (by decide), nI_clamp (by omega), show 46 + 5 * h + 0 = 46 + 5 * h by omega]
theorem m_lay_tired {h : Nat} (hh : h < 5) (v : Int32) (S : MS) (post : MS → Prop) : wM_lay (nI h) 0 v S post = post (ms_set_a S (upd (ms_a S) (46 + 5 * h) v)) := by
  unfold wM_lay
  rw [nI_lm 5 h, nI_la 46 (5 * h), nI_al 0 (46 + 5 * h), p_vp (by omega) (by decide), p_all, nI_clamp (by omega), show 46 + 5 * h + 0 = 46 + 5 * h by omega]
theorem m_own_at {h : Nat} (hh : h < 5) (S : MS) (post : Int32 → MS → Prop) : wM_own (nI h) 1 S post = post (ms_a S (47 + 5 * h)) S := by
  unfold wM_own
  rw [nI_lm 5 h, nI_la 46 (5 * h), nI_al 1 (46 + 5 * h), p_vp (by omega) (by decide), nI_clamp (by omega), show 46 + 5 * h + 1 = 47 + 5 * h by omega]
theorem m_lay_at {h : Nat} (hh : h < 5) (v : Int32) (S : MS) (post : MS → Prop) : wM_lay (nI h) 1 v S post = post (ms_set_a S (upd (ms_a S) (47 + 5 * h) v)) := by
  unfold wM_lay
  rw [nI_lm 5 h, nI_la 46 (5 * h), nI_al 1 (46 + 5 * h), p_vp (by omega) (by decide), p_all, nI_clamp (by omega), show 46 + 5 * h + 1 = 47 + 5 * h by omega]
theorem m_own_falls {h : Nat} (hh : h < 5) (S : MS) (post : Int32 → MS → Prop) : wM_own (nI h) 2 S post = post (ms_a S (48 + 5 * h)) S := by
  unfold wM_own
  rw [nI_lm 5 h, nI_la 46 (5 * h), nI_al 2 (46 + 5 * h), p_vp (by omega) (by decide), nI_clamp (by omega), show 46 + 5 * h + 2 = 48 + 5 * h by omega]
theorem m_lay_falls {h : Nat} (hh : h < 5) (v : Int32) (S : MS) (post : MS → Prop) : wM_lay (nI h) 2 v S post = post (ms_set_a S (upd (ms_a S) (48 + 5 * h) v)) := by
  unfold wM_lay
  rw [nI_lm 5 h, nI_la 46 (5 * h), nI_al 2 (46 + 5 * h), p_vp (by omega) (by decide), p_all, nI_clamp (by omega), show 46 + 5 * h + 2 = 48 + 5 * h by omega]
theorem m_own_skill {h : Nat} (hh : h < 5) (S : MS) (post : Int32 → MS → Prop) : wM_own (nI h) 3 S post = post (ms_a S (49 + 5 * h)) S := by
  unfold wM_own
  rw [nI_lm 5 h, nI_la 46 (5 * h), nI_al 3 (46 + 5 * h), p_vp (by omega) (by decide), nI_clamp (by omega), show 46 + 5 * h + 3 = 49 + 5 * h by omega]
theorem m_lay_skill {h : Nat} (hh : h < 5) (v : Int32) (S : MS) (post : MS → Prop) : wM_lay (nI h) 3 v S post = post (ms_set_a S (upd (ms_a S) (49 + 5 * h) v)) := by
  unfold wM_lay
  rw [nI_lm 5 h, nI_la 46 (5 * h), nI_al 3 (46 + 5 * h), p_vp (by omega) (by decide), p_all, nI_clamp (by omega), show 46 + 5 * h + 3 = 49 + 5 * h by omega]
theorem m_own_age {h : Nat} (hh : h < 5) (S : MS) (post : Int32 → MS → Prop) : wM_own (nI h) 4 S post = post (ms_a S (50 + 5 * h)) S := by
  unfold wM_own
  rw [nI_lm 5 h, nI_la 46 (5 * h), nI_al 4 (46 + 5 * h), p_vp (by omega) (by decide), nI_clamp (by omega), show 46 + 5 * h + 4 = 50 + 5 * h by omega]
theorem m_lay_age {h : Nat} (hh : h < 5) (v : Int32) (S : MS) (post : MS → Prop) : wM_lay (nI h) 4 v S post = post (ms_set_a S (upd (ms_a S) (50 + 5 * h) v)) := by
  unfold wM_lay
  rw [nI_lm 5 h, nI_la 46 (5 * h), nI_al 4 (46 + 5 * h), p_vp (by omega) (by decide), p_all, nI_clamp (by omega), show 46 + 5 * h + 4 = 50 + 5 * h by omega]
theorem m_moodBy {f m : Nat} (hf : f < 5) (hm : m < 10) (S : MS) (post : Int32 → MS → Prop) : wM_moodBy (nI f) (nI m) S post = post (ms_a S (71 + (10 * f + m))) S := by
  unfold wM_moodBy
  rw [nI_lm 10 f, nI_la 71 (10 * f), nI_add, p_vp (by omega) (by decide), nI_clamp (by omega), Nat.add_assoc]
theorem m_isAtHouse {p : Int32} {S : MS} (h : 0 ≤ ms_a S 1 ∧ ms_a S 1 ≤ 5) (post : Int32 → MS → Prop) : wM_isAtHouse p S post = post (if (0 ≤ p ∧ p < ms_a S 1) ∧ ¬ ms_a S (47 + 5 * p.toNatClampNeg) = -1 then 1 else 0) S := by
  unfold wM_isAtHouse
  rw [m_isClown p h, p_b0]
  by_cases c : 0 ≤ p ∧ p < ms_a S 1
  · obtain ⟨j, hj, rfl⟩ := p_rng (n := 5) (by decide) c.1 (Int32.lt_of_lt_of_le c.2 h.2)
    rw [p_F (fun n => n c), m_own_at hj, nI_clamp (by omega)]
    by_cases d : ms_a S (47 + 5 * j) = -1
    · rw [p_T d, if_neg (fun q => q.2 d)]
    · rw [p_F d, if_pos ⟨c, d⟩]
  · rw [p_T c, if_neg (fun q => c q.1)]
/-- held between 0 and a top -/
def hd (x t : Int32) : Int32 := if x < 0 then 0 else if t < x then t else x
theorem p_l1 (x : Int32) : Int64.toInt32 (Int32.toInt64 x) = x := Int32.toInt32_toInt64 x
theorem p_l2 (x y : Int32) : (Int32.toInt64 x ≤ Int32.toInt64 y) = (x ≤ y) := propext Int32.toInt64_le
theorem m_cut (x t : Int32) (S : MS) (post : Int32 → MS → Prop) : wM_cut (Int32.toInt64 x) 0 t S post = post (hd x t) S := by
  unfold wM_cut hd
  rw [p_l2, p_l2, p_l1]
  by_cases h : x < 0
  · rw [p_F (Int32.not_le.mpr h), if_pos h]
  · rw [p_T (Int32.not_lt.mp h), if_neg h]
    by_cases g : t < x
    · rw [p_F (Int32.not_le.mpr g), if_pos g]
    · rw [p_T (Int32.not_lt.mp g), if_neg g]
/-! writing rows of the other cells -/
theorem RO_ext {g g' a : Nat → Int32} (R : RO g a) (h : ∀ i, 74 ≤ i → i < 196 → g' i = g i) : RO g' a := by
  intro i h1 h2
  rw [h i h1 h2]
  exact R i h1 h2
theorem oC_ext {c c' : CS_c} {j : Nat} (h_kinds : ∀ h, h < 6 → 74 + h ≠ j → cc_kinds c' h = cc_kinds c h) (h_skills : ∀ h, h < 5 → 80 + h ≠ j → cc_skills c' h = cc_skills c h) (h_ages : ∀ h, h < 5 → 85 + h ≠ j → cc_ages c' h = cc_ages c h) (h_turns : ∀ h, h < 50 → 90 + h ≠ j → cc_turns c' h = cc_turns c h) (h_costs : ∀ h, h < 30 → 140 + h ≠ j → cc_costs c' h = cc_costs c h) (h_worths : ∀ h, h < 16 → 170 + h ≠ j → cc_worths c' h = cc_worths c h) (h_aheads : ∀ h, h < 5 → 186 + h ≠ j → cc_aheads c' h = cc_aheads c h) (h_textCount : 191 ≠ j → cc_textCount c' = cc_textCount c) (h_ruling : 192 ≠ j → cc_ruling c' = cc_ruling c) (h_trialCount : 193 ≠ j → cc_trialCount c' = cc_trialCount c) (h_grownCount : 194 ≠ j → cc_grownCount c' = cc_grownCount c) (h_count : 195 ≠ j → cc_count c' = cc_count c) : ∀ i, 74 ≤ i → i < 196 → i ≠ j → oC c' i = oC c i := by
  intro i g1 g2 g3
  have hd : (74 ≤ i ∧ i < 80) ∨ (80 ≤ i ∧ i < 85) ∨ (85 ≤ i ∧ i < 90) ∨ (90 ≤ i ∧ i < 140) ∨ (140 ≤ i ∧ i < 170) ∨ (170 ≤ i ∧ i < 186) ∨ (186 ≤ i ∧ i < 191) ∨ i = 191 ∨ i = 192 ∨ i = 193 ∨ i = 194 ∨ i = 195 := by omega
  rcases hd with hd | hd | hd | hd | hd | hd | hd | hd | hd | hd | hd | hd
  · obtain ⟨h, rfl⟩ : ∃ h, i = 74 + h := ⟨i - 74, by omega⟩
    rw [oC_kinds c' (by omega), oC_kinds c (by omega)]
    exact h_kinds h (by omega) g3
  · obtain ⟨h, rfl⟩ : ∃ h, i = 80 + h := ⟨i - 80, by omega⟩
    rw [oC_skills c' (by omega), oC_skills c (by omega)]
    exact h_skills h (by omega) g3
  · obtain ⟨h, rfl⟩ : ∃ h, i = 85 + h := ⟨i - 85, by omega⟩
    rw [oC_ages c' (by omega), oC_ages c (by omega)]
    exact h_ages h (by omega) g3
  · obtain ⟨h, rfl⟩ : ∃ h, i = 90 + h := ⟨i - 90, by omega⟩
    rw [oC_turns c' (by omega), oC_turns c (by omega)]
    exact h_turns h (by omega) g3
  · obtain ⟨h, rfl⟩ : ∃ h, i = 140 + h := ⟨i - 140, by omega⟩
    rw [oC_costs c' (by omega), oC_costs c (by omega)]
    exact h_costs h (by omega) g3
  · obtain ⟨h, rfl⟩ : ∃ h, i = 170 + h := ⟨i - 170, by omega⟩
    rw [oC_worths c' (by omega), oC_worths c (by omega)]
    exact h_worths h (by omega) g3
  · obtain ⟨h, rfl⟩ : ∃ h, i = 186 + h := ⟨i - 186, by omega⟩
    rw [oC_aheads c' (by omega), oC_aheads c (by omega)]
    exact h_aheads h (by omega) g3
  · subst hd
    exact h_textCount g3
  · subst hd
    exact h_ruling g3
  · subst hd
    exact h_trialCount g3
  · subst hd
    exact h_grownCount g3
  · subst hd
    exact h_count g3
theorem RO_kinds {c : CS_c} {a : Nat → Int32} (R : RO (oC c) a) {k : Nat} (hk : k < 6) {v : Int32} (h0 : 0 ≤ v) (h1 : v ≤ 3) : RO (oC (c.1, upd (c.2.1) k v, c.2.2)) (upd a (14 + 6 * k) v) := by
  have q := RO_upd R (i := 74 + k) (by omega) (by omega) (v := v) (by rw [lo_kinds hk]; exact h0) (by rw [hi_kinds hk]; exact h1)
  rw [ix_kinds hk] at q
  refine RO_ext q ?_
  intro i g1 g2
  by_cases e : i = 74 + k
  · subst e
    rw [upd_eq, oC_kinds _ hk]
    exact upd_eq _ _ _
  · rw [upd_ne _ _ e]
    refine @oC_ext c (c.1, upd (c.2.1) k v, c.2.2) (74 + k) ?_ ?_ ?_ ?_ ?_ ?_ ?_ ?_ ?_ ?_ ?_ ?_ i g1 g2 e
    · intro h _ n
      exact upd_ne _ _ (by omega)
    · intro _ _ _
      rfl
    · intro _ _ _
      rfl
    · intro _ _ _
      rfl
    · intro _ _ _
      rfl
    · intro _ _ _
      rfl
    · intro _ _ _
      rfl
    · intro _
      rfl
    · intro _
      rfl
    · intro _
      rfl
    · intro _
      rfl
    · intro _
      rfl
theorem RO_skills {c : CS_c} {a : Nat → Int32} (R : RO (oC c) a) {k : Nat} (hk : k < 5) {v : Int32} (h0 : 0 ≤ v) (h1 : v ≤ 9) : RO (oC (c.1, c.2.1, upd (c.2.2.1) k v, c.2.2.2)) (upd a (49 + 5 * k) v) := by
  have q := RO_upd R (i := 80 + k) (by omega) (by omega) (v := v) (by rw [lo_skills hk]; exact h0) (by rw [hi_skills hk]; exact h1)
  rw [ix_skills hk] at q
  refine RO_ext q ?_
  intro i g1 g2
  by_cases e : i = 80 + k
  · subst e
    rw [upd_eq, oC_skills _ hk]
    exact upd_eq _ _ _
  · rw [upd_ne _ _ e]
    refine @oC_ext c (c.1, c.2.1, upd (c.2.2.1) k v, c.2.2.2) (80 + k) ?_ ?_ ?_ ?_ ?_ ?_ ?_ ?_ ?_ ?_ ?_ ?_ i g1 g2 e
    · intro _ _ _
      rfl
    · intro h _ n
      exact upd_ne _ _ (by omega)
    · intro _ _ _
      rfl
    · intro _ _ _
      rfl
    · intro _ _ _
      rfl
    · intro _ _ _
      rfl
    · intro _ _ _
      rfl
    · intro _
      rfl
    · intro _
      rfl
    · intro _
      rfl
    · intro _
      rfl
    · intro _
      rfl
theorem RO_ages {c : CS_c} {a : Nat → Int32} (R : RO (oC c) a) {k : Nat} (hk : k < 5) {v : Int32} (h0 : 0 ≤ v) (h1 : v ≤ 99) : RO (oC (c.1, c.2.1, c.2.2.1, upd (c.2.2.2.1) k v, c.2.2.2.2)) (upd a (50 + 5 * k) v) := by
  have q := RO_upd R (i := 85 + k) (by omega) (by omega) (v := v) (by rw [lo_ages hk]; exact h0) (by rw [hi_ages hk]; exact h1)
  rw [ix_ages hk] at q
  refine RO_ext q ?_
  intro i g1 g2
  by_cases e : i = 85 + k
  · subst e
    rw [upd_eq, oC_ages _ hk]
    exact upd_eq _ _ _
  · rw [upd_ne _ _ e]
    refine @oC_ext c (c.1, c.2.1, c.2.2.1, upd (c.2.2.2.1) k v, c.2.2.2.2) (85 + k) ?_ ?_ ?_ ?_ ?_ ?_ ?_ ?_ ?_ ?_ ?_ ?_ i g1 g2 e
    · intro _ _ _
      rfl
    · intro _ _ _
      rfl
    · intro h _ n
      exact upd_ne _ _ (by omega)
    · intro _ _ _
      rfl
    · intro _ _ _
      rfl
    · intro _ _ _
      rfl
    · intro _ _ _
      rfl
    · intro _
      rfl
    · intro _
      rfl
    · intro _
      rfl
    · intro _
      rfl
    · intro _
      rfl
theorem RO_turns {c : CS_c} {a : Nat → Int32} (R : RO (oC c) a) {k : Nat} (hk : k < 50) {v : Int32} (h0 : 0 ≤ v) (h1 : v ≤ 9) : RO (oC (c.1, c.2.1, c.2.2.1, c.2.2.2.1, upd (c.2.2.2.2.1) k v, c.2.2.2.2.2)) (upd a (71 + k) v) := by
  have q := RO_upd R (i := 90 + k) (by omega) (by omega) (v := v) (by rw [lo_turns hk]; exact h0) (by rw [hi_turns hk]; exact h1)
  rw [ix_turns hk] at q
  refine RO_ext q ?_
  intro i g1 g2
  by_cases e : i = 90 + k
  · subst e
    rw [upd_eq, oC_turns _ hk]
    exact upd_eq _ _ _
  · rw [upd_ne _ _ e]
    refine @oC_ext c (c.1, c.2.1, c.2.2.1, c.2.2.2.1, upd (c.2.2.2.2.1) k v, c.2.2.2.2.2) (90 + k) ?_ ?_ ?_ ?_ ?_ ?_ ?_ ?_ ?_ ?_ ?_ ?_ i g1 g2 e
    · intro _ _ _
      rfl
    · intro _ _ _
      rfl
    · intro _ _ _
      rfl
    · intro h _ n
      exact upd_ne _ _ (by omega)
    · intro _ _ _
      rfl
    · intro _ _ _
      rfl
    · intro _ _ _
      rfl
    · intro _
      rfl
    · intro _
      rfl
    · intro _
      rfl
    · intro _
      rfl
    · intro _
      rfl
theorem RO_costs {c : CS_c} {a : Nat → Int32} (R : RO (oC c) a) {k : Nat} (hk : k < 30) {v : Int32} (h0 : 0 ≤ v) (h1 : v ≤ 99) : RO (oC (c.1, c.2.1, c.2.2.1, c.2.2.2.1, c.2.2.2.2.1, c.2.2.2.2.2.1, c.2.2.2.2.2.2.1, c.2.2.2.2.2.2.2.1, upd (c.2.2.2.2.2.2.2.2.1) k v, c.2.2.2.2.2.2.2.2.2)) (upd a (121 + k) v) := by
  have q := RO_upd R (i := 140 + k) (by omega) (by omega) (v := v) (by rw [lo_costs hk]; exact h0) (by rw [hi_costs hk]; exact h1)
  rw [ix_costs hk] at q
  refine RO_ext q ?_
  intro i g1 g2
  by_cases e : i = 140 + k
  · subst e
    rw [upd_eq, oC_costs _ hk]
    exact upd_eq _ _ _
  · rw [upd_ne _ _ e]
    refine @oC_ext c (c.1, c.2.1, c.2.2.1, c.2.2.2.1, c.2.2.2.2.1, c.2.2.2.2.2.1, c.2.2.2.2.2.2.1, c.2.2.2.2.2.2.2.1, upd (c.2.2.2.2.2.2.2.2.1) k v, c.2.2.2.2.2.2.2.2.2) (140 + k) ?_ ?_ ?_ ?_ ?_ ?_ ?_ ?_ ?_ ?_ ?_ ?_ i g1 g2 e
    · intro _ _ _
      rfl
    · intro _ _ _
      rfl
    · intro _ _ _
      rfl
    · intro _ _ _
      rfl
    · intro h _ n
      exact upd_ne _ _ (by omega)
    · intro _ _ _
      rfl
    · intro _ _ _
      rfl
    · intro _
      rfl
    · intro _
      rfl
    · intro _
      rfl
    · intro _
      rfl
    · intro _
      rfl
theorem RO_worths {c : CS_c} {a : Nat → Int32} (R : RO (oC c) a) {k : Nat} (hk : k < 16) {v : Int32} (h0 : 0 ≤ v) (h1 : v ≤ 999) : RO (oC (c.1, c.2.1, c.2.2.1, c.2.2.2.1, c.2.2.2.2.1, c.2.2.2.2.2.1, c.2.2.2.2.2.2.1, c.2.2.2.2.2.2.2.1, c.2.2.2.2.2.2.2.2.1, c.2.2.2.2.2.2.2.2.2.1, c.2.2.2.2.2.2.2.2.2.2.1, upd (c.2.2.2.2.2.2.2.2.2.2.2.1) k v, c.2.2.2.2.2.2.2.2.2.2.2.2)) (upd a (167 + k) v) := by
  have q := RO_upd R (i := 170 + k) (by omega) (by omega) (v := v) (by rw [lo_worths hk]; exact h0) (by rw [hi_worths hk]; exact h1)
  rw [ix_worths hk] at q
  refine RO_ext q ?_
  intro i g1 g2
  by_cases e : i = 170 + k
  · subst e
    rw [upd_eq, oC_worths _ hk]
    exact upd_eq _ _ _
  · rw [upd_ne _ _ e]
    refine @oC_ext c (c.1, c.2.1, c.2.2.1, c.2.2.2.1, c.2.2.2.2.1, c.2.2.2.2.2.1, c.2.2.2.2.2.2.1, c.2.2.2.2.2.2.2.1, c.2.2.2.2.2.2.2.2.1, c.2.2.2.2.2.2.2.2.2.1, c.2.2.2.2.2.2.2.2.2.2.1, upd (c.2.2.2.2.2.2.2.2.2.2.2.1) k v, c.2.2.2.2.2.2.2.2.2.2.2.2) (170 + k) ?_ ?_ ?_ ?_ ?_ ?_ ?_ ?_ ?_ ?_ ?_ ?_ i g1 g2 e
    · intro _ _ _
      rfl
    · intro _ _ _
      rfl
    · intro _ _ _
      rfl
    · intro _ _ _
      rfl
    · intro _ _ _
      rfl
    · intro h _ n
      exact upd_ne _ _ (by omega)
    · intro _ _ _
      rfl
    · intro _
      rfl
    · intro _
      rfl
    · intro _
      rfl
    · intro _
      rfl
    · intro _
      rfl
theorem RO_aheads {c : CS_c} {a : Nat → Int32} (R : RO (oC c) a) {k : Nat} (hk : k < 5) {v : Int32} (h0 : 0 ≤ v) (h1 : v ≤ 31) : RO (oC (c.1, c.2.1, c.2.2.1, c.2.2.2.1, c.2.2.2.2.1, c.2.2.2.2.2.1, c.2.2.2.2.2.2.1, c.2.2.2.2.2.2.2.1, c.2.2.2.2.2.2.2.2.1, c.2.2.2.2.2.2.2.2.2.1, c.2.2.2.2.2.2.2.2.2.2.1, c.2.2.2.2.2.2.2.2.2.2.2.1, upd (c.2.2.2.2.2.2.2.2.2.2.2.2.1) k v, c.2.2.2.2.2.2.2.2.2.2.2.2.2)) (upd a (183 + k) v) := by
  have q := RO_upd R (i := 186 + k) (by omega) (by omega) (v := v) (by rw [lo_aheads hk]; exact h0) (by rw [hi_aheads hk]; exact h1)
  rw [ix_aheads hk] at q
  refine RO_ext q ?_
  intro i g1 g2
  by_cases e : i = 186 + k
  · subst e
    rw [upd_eq, oC_aheads _ hk]
    exact upd_eq _ _ _
  · rw [upd_ne _ _ e]
    refine @oC_ext c (c.1, c.2.1, c.2.2.1, c.2.2.2.1, c.2.2.2.2.1, c.2.2.2.2.2.1, c.2.2.2.2.2.2.1, c.2.2.2.2.2.2.2.1, c.2.2.2.2.2.2.2.2.1, c.2.2.2.2.2.2.2.2.2.1, c.2.2.2.2.2.2.2.2.2.2.1, c.2.2.2.2.2.2.2.2.2.2.2.1, upd (c.2.2.2.2.2.2.2.2.2.2.2.2.1) k v, c.2.2.2.2.2.2.2.2.2.2.2.2.2) (186 + k) ?_ ?_ ?_ ?_ ?_ ?_ ?_ ?_ ?_ ?_ ?_ ?_ i g1 g2 e
    · intro _ _ _
      rfl
    · intro _ _ _
      rfl
    · intro _ _ _
      rfl
    · intro _ _ _
      rfl
    · intro _ _ _
      rfl
    · intro _ _ _
      rfl
    · intro h _ n
      exact upd_ne _ _ (by omega)
    · intro _
      rfl
    · intro _
      rfl
    · intro _
      rfl
    · intro _
      rfl
    · intro _
      rfl
theorem RO_textCount {c : CS_c} {a : Nat → Int32} (R : RO (oC c) a) {v : Int32} (h0 : 0 ≤ v) (h1 : v ≤ 4) : RO (oC (c.1, c.2.1, c.2.2.1, c.2.2.2.1, c.2.2.2.2.1, c.2.2.2.2.2.1, v, c.2.2.2.2.2.2.2)) (upd a 2 v) := by
  have q := RO_upd R (i := 191) (by omega) (by omega) (v := v) h0 h1
  refine RO_ext q ?_
  intro i g1 g2
  by_cases e : i = 191
  · subst e
    rw [upd_eq]
    rfl
  · rw [upd_ne _ _ e]
    refine @oC_ext c (c.1, c.2.1, c.2.2.1, c.2.2.2.1, c.2.2.2.2.1, c.2.2.2.2.2.1, v, c.2.2.2.2.2.2.2) 191 ?_ ?_ ?_ ?_ ?_ ?_ ?_ ?_ ?_ ?_ ?_ ?_ i g1 g2 e
    · intro _ _ _
      rfl
    · intro _ _ _
      rfl
    · intro _ _ _
      rfl
    · intro _ _ _
      rfl
    · intro _ _ _
      rfl
    · intro _ _ _
      rfl
    · intro _ _ _
      rfl
    · intro n
      exact absurd rfl n
    · intro _
      rfl
    · intro _
      rfl
    · intro _
      rfl
    · intro _
      rfl
theorem RO_ruling {c : CS_c} {a : Nat → Int32} (R : RO (oC c) a) {v : Int32} (h0 : -1 ≤ v) (h1 : v ≤ 3) : RO (oC (c.1, c.2.1, c.2.2.1, c.2.2.2.1, c.2.2.2.2.1, c.2.2.2.2.2.1, c.2.2.2.2.2.2.1, v, c.2.2.2.2.2.2.2.2)) (upd a 3 v) := by
  have q := RO_upd R (i := 192) (by omega) (by omega) (v := v) h0 h1
  refine RO_ext q ?_
  intro i g1 g2
  by_cases e : i = 192
  · subst e
    rw [upd_eq]
    rfl
  · rw [upd_ne _ _ e]
    refine @oC_ext c (c.1, c.2.1, c.2.2.1, c.2.2.2.1, c.2.2.2.2.1, c.2.2.2.2.2.1, c.2.2.2.2.2.2.1, v, c.2.2.2.2.2.2.2.2) 192 ?_ ?_ ?_ ?_ ?_ ?_ ?_ ?_ ?_ ?_ ?_ ?_ i g1 g2 e
    · intro _ _ _
      rfl
    · intro _ _ _
      rfl
    · intro _ _ _
      rfl
    · intro _ _ _
      rfl
    · intro _ _ _
      rfl
    · intro _ _ _
      rfl
    · intro _ _ _
      rfl
    · intro _
      rfl
    · intro n
      exact absurd rfl n
    · intro _
      rfl
    · intro _
      rfl
    · intro _
      rfl
theorem RO_trialCount {c : CS_c} {a : Nat → Int32} (R : RO (oC c) a) {v : Int32} (h0 : 0 ≤ v) (h1 : v ≤ 8) : RO (oC (c.1, c.2.1, c.2.2.1, c.2.2.2.1, c.2.2.2.2.1, c.2.2.2.2.2.1, c.2.2.2.2.2.2.1, c.2.2.2.2.2.2.2.1, c.2.2.2.2.2.2.2.2.1, c.2.2.2.2.2.2.2.2.2.1, v, c.2.2.2.2.2.2.2.2.2.2.2)) (upd a 5 v) := by
  have q := RO_upd R (i := 193) (by omega) (by omega) (v := v) h0 h1
  refine RO_ext q ?_
  intro i g1 g2
  by_cases e : i = 193
  · subst e
    rw [upd_eq]
    rfl
  · rw [upd_ne _ _ e]
    refine @oC_ext c (c.1, c.2.1, c.2.2.1, c.2.2.2.1, c.2.2.2.2.1, c.2.2.2.2.2.1, c.2.2.2.2.2.2.1, c.2.2.2.2.2.2.2.1, c.2.2.2.2.2.2.2.2.1, c.2.2.2.2.2.2.2.2.2.1, v, c.2.2.2.2.2.2.2.2.2.2.2) 193 ?_ ?_ ?_ ?_ ?_ ?_ ?_ ?_ ?_ ?_ ?_ ?_ i g1 g2 e
    · intro _ _ _
      rfl
    · intro _ _ _
      rfl
    · intro _ _ _
      rfl
    · intro _ _ _
      rfl
    · intro _ _ _
      rfl
    · intro _ _ _
      rfl
    · intro _ _ _
      rfl
    · intro _
      rfl
    · intro _
      rfl
    · intro n
      exact absurd rfl n
    · intro _
      rfl
    · intro _
      rfl
theorem RO_grownCount {c : CS_c} {a : Nat → Int32} (R : RO (oC c) a) {v : Int32} (h0 : 0 ≤ v) (h1 : v ≤ 8) : RO (oC (c.1, c.2.1, c.2.2.1, c.2.2.2.1, c.2.2.2.2.1, c.2.2.2.2.2.1, c.2.2.2.2.2.2.1, c.2.2.2.2.2.2.2.1, c.2.2.2.2.2.2.2.2.1, c.2.2.2.2.2.2.2.2.2.1, c.2.2.2.2.2.2.2.2.2.2.1, c.2.2.2.2.2.2.2.2.2.2.2.1, c.2.2.2.2.2.2.2.2.2.2.2.2.1, c.2.2.2.2.2.2.2.2.2.2.2.2.2.1, v, c.2.2.2.2.2.2.2.2.2.2.2.2.2.2.2)) (upd a 6 v) := by
  have q := RO_upd R (i := 194) (by omega) (by omega) (v := v) h0 h1
  refine RO_ext q ?_
  intro i g1 g2
  by_cases e : i = 194
  · subst e
    rw [upd_eq]
    rfl
  · rw [upd_ne _ _ e]
    refine @oC_ext c (c.1, c.2.1, c.2.2.1, c.2.2.2.1, c.2.2.2.2.1, c.2.2.2.2.2.1, c.2.2.2.2.2.2.1, c.2.2.2.2.2.2.2.1, c.2.2.2.2.2.2.2.2.1, c.2.2.2.2.2.2.2.2.2.1, c.2.2.2.2.2.2.2.2.2.2.1, c.2.2.2.2.2.2.2.2.2.2.2.1, c.2.2.2.2.2.2.2.2.2.2.2.2.1, c.2.2.2.2.2.2.2.2.2.2.2.2.2.1, v, c.2.2.2.2.2.2.2.2.2.2.2.2.2.2.2) 194 ?_ ?_ ?_ ?_ ?_ ?_ ?_ ?_ ?_ ?_ ?_ ?_ i g1 g2 e
    · intro _ _ _
      rfl
    · intro _ _ _
      rfl
    · intro _ _ _
      rfl
    · intro _ _ _
      rfl
    · intro _ _ _
      rfl
    · intro _ _ _
      rfl
    · intro _ _ _
      rfl
    · intro _
      rfl
    · intro _
      rfl
    · intro _
      rfl
    · intro n
      exact absurd rfl n
    · intro _
      rfl
theorem RO_count {c : CS_c} {a : Nat → Int32} (R : RO (oC c) a) {v : Int32} (h0 : 0 ≤ v) (h1 : v ≤ 30) : RO (oC (c.1, c.2.1, c.2.2.1, c.2.2.2.1, c.2.2.2.2.1, c.2.2.2.2.2.1, c.2.2.2.2.2.2.1, c.2.2.2.2.2.2.2.1, c.2.2.2.2.2.2.2.2.1, c.2.2.2.2.2.2.2.2.2.1, c.2.2.2.2.2.2.2.2.2.2.1, c.2.2.2.2.2.2.2.2.2.2.2.1, c.2.2.2.2.2.2.2.2.2.2.2.2.1, c.2.2.2.2.2.2.2.2.2.2.2.2.2.1, c.2.2.2.2.2.2.2.2.2.2.2.2.2.2.1, c.2.2.2.2.2.2.2.2.2.2.2.2.2.2.2.1, c.2.2.2.2.2.2.2.2.2.2.2.2.2.2.2.2.1, v)) (upd a 4 v) := by
  have q := RO_upd R (i := 195) (by omega) (by omega) (v := v) h0 h1
  refine RO_ext q ?_
  intro i g1 g2
  by_cases e : i = 195
  · subst e
    rw [upd_eq]
    rfl
  · rw [upd_ne _ _ e]
    refine @oC_ext c (c.1, c.2.1, c.2.2.1, c.2.2.2.1, c.2.2.2.2.1, c.2.2.2.2.2.1, c.2.2.2.2.2.2.1, c.2.2.2.2.2.2.2.1, c.2.2.2.2.2.2.2.2.1, c.2.2.2.2.2.2.2.2.2.1, c.2.2.2.2.2.2.2.2.2.2.1, c.2.2.2.2.2.2.2.2.2.2.2.1, c.2.2.2.2.2.2.2.2.2.2.2.2.1, c.2.2.2.2.2.2.2.2.2.2.2.2.2.1, c.2.2.2.2.2.2.2.2.2.2.2.2.2.2.1, c.2.2.2.2.2.2.2.2.2.2.2.2.2.2.2.1, c.2.2.2.2.2.2.2.2.2.2.2.2.2.2.2.2.1, v) 195 ?_ ?_ ?_ ?_ ?_ ?_ ?_ ?_ ?_ ?_ ?_ ?_ i g1 g2 e
    · intro _ _ _
      rfl
    · intro _ _ _
      rfl
    · intro _ _ _
      rfl
    · intro _ _ _
      rfl
    · intro _ _ _
      rfl
    · intro _ _ _
      rfl
    · intro _ _ _
      rfl
    · intro _
      rfl
    · intro _
      rfl
    · intro _
      rfl
    · intro _
      rfl
    · intro n
      exact absurd rfl n
theorem st_now (S : CS) (v : Nat → Int32) : (cx_set_c_now S v).2 = S.2 ∧ (cx_set_c_now S v).1 = (v, S.1.2) := by
  simp only [cx_set_c_now, and_self]
theorem st_kinds (S : CS) (v : Nat → Int32) : (cx_set_c_kinds S v).2 = S.2 ∧ (cx_set_c_kinds S v).1 = (S.1.1, v, S.1.2.2) := by
  simp only [cx_set_c_kinds, and_self]
theorem st_skills (S : CS) (v : Nat → Int32) : (cx_set_c_skills S v).2 = S.2 ∧ (cx_set_c_skills S v).1 = (S.1.1, S.1.2.1, v, S.1.2.2.2) := by
  simp only [cx_set_c_skills, and_self]
theorem st_ages (S : CS) (v : Nat → Int32) : (cx_set_c_ages S v).2 = S.2 ∧ (cx_set_c_ages S v).1 = (S.1.1, S.1.2.1, S.1.2.2.1, v, S.1.2.2.2.2) := by
  simp only [cx_set_c_ages, and_self]
theorem st_turns (S : CS) (v : Nat → Int32) : (cx_set_c_turns S v).2 = S.2 ∧ (cx_set_c_turns S v).1 = (S.1.1, S.1.2.1, S.1.2.2.1, S.1.2.2.2.1, v, S.1.2.2.2.2.2) := by
  simp only [cx_set_c_turns, and_self]
theorem st_texts (S : CS) (v : Nat → Option Nat) : (cx_set_c_texts S v).2 = S.2 ∧ (cx_set_c_texts S v).1 = (S.1.1, S.1.2.1, S.1.2.2.1, S.1.2.2.2.1, S.1.2.2.2.2.1, v, S.1.2.2.2.2.2.2) := by
  simp only [cx_set_c_texts, and_self]
theorem st_textCount (S : CS) (v : Int32) : (cx_set_c_textCount S v).2 = S.2 ∧ (cx_set_c_textCount S v).1 = (S.1.1, S.1.2.1, S.1.2.2.1, S.1.2.2.2.1, S.1.2.2.2.2.1, S.1.2.2.2.2.2.1, v, S.1.2.2.2.2.2.2.2) := by
  simp only [cx_set_c_textCount, and_self]
theorem st_ruling (S : CS) (v : Int32) : (cx_set_c_ruling S v).2 = S.2 ∧ (cx_set_c_ruling S v).1 = (S.1.1, S.1.2.1, S.1.2.2.1, S.1.2.2.2.1, S.1.2.2.2.2.1, S.1.2.2.2.2.2.1, S.1.2.2.2.2.2.2.1, v, S.1.2.2.2.2.2.2.2.2) := by
  simp only [cx_set_c_ruling, and_self]
theorem st_costs (S : CS) (v : Nat → Int32) : (cx_set_c_costs S v).2 = S.2 ∧ (cx_set_c_costs S v).1 = (S.1.1, S.1.2.1, S.1.2.2.1, S.1.2.2.2.1, S.1.2.2.2.2.1, S.1.2.2.2.2.2.1, S.1.2.2.2.2.2.2.1, S.1.2.2.2.2.2.2.2.1, v, S.1.2.2.2.2.2.2.2.2.2) := by
  simp only [cx_set_c_costs, and_self]
theorem st_trials (S : CS) (v : Nat → Int32) : (cx_set_c_trials S v).2 = S.2 ∧ (cx_set_c_trials S v).1 = (S.1.1, S.1.2.1, S.1.2.2.1, S.1.2.2.2.1, S.1.2.2.2.2.1, S.1.2.2.2.2.2.1, S.1.2.2.2.2.2.2.1, S.1.2.2.2.2.2.2.2.1, S.1.2.2.2.2.2.2.2.2.1, v, S.1.2.2.2.2.2.2.2.2.2.2) := by
  simp only [cx_set_c_trials, and_self]
theorem st_trialCount (S : CS) (v : Int32) : (cx_set_c_trialCount S v).2 = S.2 ∧ (cx_set_c_trialCount S v).1 = (S.1.1, S.1.2.1, S.1.2.2.1, S.1.2.2.2.1, S.1.2.2.2.2.1, S.1.2.2.2.2.2.1, S.1.2.2.2.2.2.2.1, S.1.2.2.2.2.2.2.2.1, S.1.2.2.2.2.2.2.2.2.1, S.1.2.2.2.2.2.2.2.2.2.1, v, S.1.2.2.2.2.2.2.2.2.2.2.2) := by
  simp only [cx_set_c_trialCount, and_self]
theorem st_worths (S : CS) (v : Nat → Int32) : (cx_set_c_worths S v).2 = S.2 ∧ (cx_set_c_worths S v).1 = (S.1.1, S.1.2.1, S.1.2.2.1, S.1.2.2.2.1, S.1.2.2.2.2.1, S.1.2.2.2.2.2.1, S.1.2.2.2.2.2.2.1, S.1.2.2.2.2.2.2.2.1, S.1.2.2.2.2.2.2.2.2.1, S.1.2.2.2.2.2.2.2.2.2.1, S.1.2.2.2.2.2.2.2.2.2.2.1, v, S.1.2.2.2.2.2.2.2.2.2.2.2.2) := by
  simp only [cx_set_c_worths, and_self]
theorem st_aheads (S : CS) (v : Nat → Int32) : (cx_set_c_aheads S v).2 = S.2 ∧ (cx_set_c_aheads S v).1 = (S.1.1, S.1.2.1, S.1.2.2.1, S.1.2.2.2.1, S.1.2.2.2.2.1, S.1.2.2.2.2.2.1, S.1.2.2.2.2.2.2.1, S.1.2.2.2.2.2.2.2.1, S.1.2.2.2.2.2.2.2.2.1, S.1.2.2.2.2.2.2.2.2.2.1, S.1.2.2.2.2.2.2.2.2.2.2.1, S.1.2.2.2.2.2.2.2.2.2.2.2.1, v, S.1.2.2.2.2.2.2.2.2.2.2.2.2.2) := by
  simp only [cx_set_c_aheads, and_self]
theorem st_growns (S : CS) (v : Nat → Int32) : (cx_set_c_growns S v).2 = S.2 ∧ (cx_set_c_growns S v).1 = (S.1.1, S.1.2.1, S.1.2.2.1, S.1.2.2.2.1, S.1.2.2.2.2.1, S.1.2.2.2.2.2.1, S.1.2.2.2.2.2.2.1, S.1.2.2.2.2.2.2.2.1, S.1.2.2.2.2.2.2.2.2.1, S.1.2.2.2.2.2.2.2.2.2.1, S.1.2.2.2.2.2.2.2.2.2.2.1, S.1.2.2.2.2.2.2.2.2.2.2.2.1, S.1.2.2.2.2.2.2.2.2.2.2.2.2.1, v, S.1.2.2.2.2.2.2.2.2.2.2.2.2.2.2) := by
  simp only [cx_set_c_growns, and_self]
theorem st_grownCount (S : CS) (v : Int32) : (cx_set_c_grownCount S v).2 = S.2 ∧ (cx_set_c_grownCount S v).1 = (S.1.1, S.1.2.1, S.1.2.2.1, S.1.2.2.2.1, S.1.2.2.2.2.1, S.1.2.2.2.2.2.1, S.1.2.2.2.2.2.2.1, S.1.2.2.2.2.2.2.2.1, S.1.2.2.2.2.2.2.2.2.1, S.1.2.2.2.2.2.2.2.2.2.1, S.1.2.2.2.2.2.2.2.2.2.2.1, S.1.2.2.2.2.2.2.2.2.2.2.2.1, S.1.2.2.2.2.2.2.2.2.2.2.2.2.1, S.1.2.2.2.2.2.2.2.2.2.2.2.2.2.1, v, S.1.2.2.2.2.2.2.2.2.2.2.2.2.2.2.2) := by
  simp only [cx_set_c_grownCount, and_self]
theorem st_rows (S : CS) (v : Nat → Int32) : (cx_set_cs_rows S v).2 = S.2 ∧ (cx_set_cs_rows S v).1 = (S.1.1, S.1.2.1, S.1.2.2.1, S.1.2.2.2.1, S.1.2.2.2.2.1, S.1.2.2.2.2.2.1, S.1.2.2.2.2.2.2.1, S.1.2.2.2.2.2.2.2.1, S.1.2.2.2.2.2.2.2.2.1, S.1.2.2.2.2.2.2.2.2.2.1, S.1.2.2.2.2.2.2.2.2.2.2.1, S.1.2.2.2.2.2.2.2.2.2.2.2.1, S.1.2.2.2.2.2.2.2.2.2.2.2.2.1, S.1.2.2.2.2.2.2.2.2.2.2.2.2.2.1, S.1.2.2.2.2.2.2.2.2.2.2.2.2.2.2.1, v, S.1.2.2.2.2.2.2.2.2.2.2.2.2.2.2.2.2) := by
  simp only [cx_set_cs_rows, and_self]
theorem st_first (S : CS) (v : Int32) : (cx_set_cs_first S v).2 = S.2 ∧ (cx_set_cs_first S v).1 = (S.1.1, S.1.2.1, S.1.2.2.1, S.1.2.2.2.1, S.1.2.2.2.2.1, S.1.2.2.2.2.2.1, S.1.2.2.2.2.2.2.1, S.1.2.2.2.2.2.2.2.1, S.1.2.2.2.2.2.2.2.2.1, S.1.2.2.2.2.2.2.2.2.2.1, S.1.2.2.2.2.2.2.2.2.2.2.1, S.1.2.2.2.2.2.2.2.2.2.2.2.1, S.1.2.2.2.2.2.2.2.2.2.2.2.2.1, S.1.2.2.2.2.2.2.2.2.2.2.2.2.2.1, S.1.2.2.2.2.2.2.2.2.2.2.2.2.2.2.1, S.1.2.2.2.2.2.2.2.2.2.2.2.2.2.2.2.1, v, S.1.2.2.2.2.2.2.2.2.2.2.2.2.2.2.2.2.2) := by
  simp only [cx_set_cs_first, and_self]
theorem st_count (S : CS) (v : Int32) : (cx_set_cs_count S v).2 = S.2 ∧ (cx_set_cs_count S v).1 = (S.1.1, S.1.2.1, S.1.2.2.1, S.1.2.2.2.1, S.1.2.2.2.2.1, S.1.2.2.2.2.2.1, S.1.2.2.2.2.2.2.1, S.1.2.2.2.2.2.2.2.1, S.1.2.2.2.2.2.2.2.2.1, S.1.2.2.2.2.2.2.2.2.2.1, S.1.2.2.2.2.2.2.2.2.2.2.1, S.1.2.2.2.2.2.2.2.2.2.2.2.1, S.1.2.2.2.2.2.2.2.2.2.2.2.2.1, S.1.2.2.2.2.2.2.2.2.2.2.2.2.2.1, S.1.2.2.2.2.2.2.2.2.2.2.2.2.2.2.1, S.1.2.2.2.2.2.2.2.2.2.2.2.2.2.2.2.1, S.1.2.2.2.2.2.2.2.2.2.2.2.2.2.2.2.2.1, v) := by
  simp only [cx_set_cs_count, and_self]
theorem gs_trialCount_trials (S : CS) (v : Nat → Int32) : cx_c_trialCount (cx_set_c_trials S v) = cx_c_trialCount S := by
  simp only [cx_c_trialCount, cx_set_c_trials]
theorem gs_trialCount_trialCount (S : CS) (v : Int32) : cx_c_trialCount (cx_set_c_trialCount S v) = v := by
  simp only [cx_c_trialCount, cx_set_c_trialCount]
theorem gs_grownCount_growns (S : CS) (v : Nat → Int32) : cx_c_grownCount (cx_set_c_growns S v) = cx_c_grownCount S := by
  simp only [cx_c_grownCount, cx_set_c_growns]
theorem gs_grownCount_grownCount (S : CS) (v : Int32) : cx_c_grownCount (cx_set_c_grownCount S v) = v := by
  simp only [cx_c_grownCount, cx_set_c_grownCount]
theorem gs_now_kinds (S : CS) (v : Nat → Int32) : cx_c_now (cx_set_c_kinds S v) = cx_c_now S := by
  simp only [cx_c_now, cx_set_c_kinds]
theorem gs_now_skills (S : CS) (v : Nat → Int32) : cx_c_now (cx_set_c_skills S v) = cx_c_now S := by
  simp only [cx_c_now, cx_set_c_skills]
theorem gs_now_ages (S : CS) (v : Nat → Int32) : cx_c_now (cx_set_c_ages S v) = cx_c_now S := by
  simp only [cx_c_now, cx_set_c_ages]
theorem gs_ages_skills (S : CS) (v : Nat → Int32) : cx_c_ages (cx_set_c_skills S v) = cx_c_ages S := by
  simp only [cx_c_ages, cx_set_c_skills]
theorem gs_now_now (S : CS) (v : Nat → Int32) : cx_c_now (cx_set_c_now S v) = v := by
  simp only [cx_c_now, cx_set_c_now]
theorem gs_count_rows (S : CS) (v : Nat → Int32) : cx_cs_count (cx_set_cs_rows S v) = cx_cs_count S := by
  simp only [cx_cs_count, cx_set_cs_rows]
theorem gs_count_first (S : CS) (v : Int32) : cx_cs_count (cx_set_cs_first S v) = cx_cs_count S := by
  simp only [cx_cs_count, cx_set_cs_first]
theorem gs_count_count (S : CS) (v : Int32) : cx_cs_count (cx_set_cs_count S v) = v := by
  simp only [cx_cs_count, cx_set_cs_count]
theorem gs_rows_first (S : CS) (v : Int32) : cx_cs_rows (cx_set_cs_first S v) = cx_cs_rows S := by
  simp only [cx_cs_rows, cx_set_cs_first]
theorem gs_rows_count (S : CS) (v : Int32) : cx_cs_rows (cx_set_cs_count S v) = cx_cs_rows S := by
  simp only [cx_cs_rows, cx_set_cs_count]
theorem gs_first_count (S : CS) (v : Int32) : cx_cs_first (cx_set_cs_count S v) = cx_cs_first S := by
  simp only [cx_cs_first, cx_set_cs_count]
theorem gs_now_first (S : CS) (v : Int32) : cx_c_now (cx_set_cs_first S v) = cx_c_now S := by
  simp only [cx_c_now, cx_set_cs_first]
theorem gs_now_count (S : CS) (v : Int32) : cx_c_now (cx_set_cs_count S v) = cx_c_now S := by
  simp only [cx_c_now, cx_set_cs_count]
theorem gs_now_rows (S : CS) (v : Nat → Int32) : cx_c_now (cx_set_cs_rows S v) = cx_c_now S := by
  simp only [cx_c_now, cx_set_cs_rows]
theorem s_nn (S : CS) (f g : Nat → Int32) : cx_set_c_now (cx_set_c_now S f) g = cx_set_c_now S g := by
  simp only [cx_set_c_now]
theorem g_aa (S : MS) (f : Nat → Int32) : ms_a (ms_set_a S f) = f := rfl
theorem s_aa (S : MS) (f g : Nat → Int32) : ms_set_a (ms_set_a S f) g = ms_set_a S g := rfl
