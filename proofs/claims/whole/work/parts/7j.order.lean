/-! PURE LAYER: order, all -/
theorem q_find_mood {p2 p3 : Int32} {S : CS} (post : CS → Prop) (h : wC_X5_arrived p2 S (fun r S => ((r = 0 → ∃ n0, gF36 wC_X5_moved wC_X5_arrived 0 post n0 p3 1 0 (cQ S (vp_updL (cx_s_layer S) 0 (Int32.toInt64 p2)) (cx_s_nextLayer S) (cx_s_seen S) (cx_s_count S) (-1) 0)) ∧ (¬ r = 0 → ∃ n0, gF36 wC_X5_moved wC_X5_arrived 0 post n0 p3 1 0 (cQ S (vp_updL (cx_s_layer S) 0 (Int32.toInt64 p2)) (cx_s_nextLayer S) (cx_s_seen S) (cx_s_count S) 0 0))))) : wC_X7_find_mood p2 p3 S post := by
  have e : ∀ (t : Int32) (T : CS), wC_X7_find_mood_14 post p2 p3 t T = ∃ n0, gF36 wC_X5_moved wC_X5_arrived 0 post n0 p3 1 0 (cQ T (vp_updL (cx_s_layer T) 0 (Int32.toInt64 p2)) (cx_s_nextLayer T) (cx_s_seen T) (cx_s_count T) t 0) := by
    intro t T
    unfold wC_X7_find_mood_14
    simp only [p_all]
    rw [cQ_0_length, cQ_s_path, cQ_layer, cQ_s_layer]
    simp only [g36_mood]
    rfl
  unfold wC_X7_find_mood
  simp only [e]
  exact h
theorem cF_city {S S' : CS} (h : cF S S') : S'.1 = S.1 := Prod.ext h.2.1 h.1.1
/-! one house's mood -/
theorem or_bit : ∀ s, s < 10 → ∀ i, i < 10 → ((k_shr (nI (2 ^ s)) (nI i) &&& 1 = 1) ↔ i = s) := by decide +kernel
theorem or_pow : ∀ s, s < 10 → 2 ^ s < 1024 ∧ (nI (2 ^ s) = 512 ↔ s = 9) := by decide +kernel
theorem or_inj : ∀ s, s < 10 → ∀ t, t < 10 → 2 ^ s = 2 ^ t → s = t := by decide +kernel
theorem tuV_one (a : Nat → Int32) {f s : Nat} (hs : s < 10) : tuV a f (nI (2 ^ s)) = k_shl 1 (a (71 + (10 * f + s))) := by
  have I := upf_I (tuS a f (nI (2 ^ s))) (fun i x => x = if s < i then k_shl 1 (a (71 + (10 * f + s))) else 0) 10 (by
    intro i x hi I
    show tuS a f (nI (2 ^ s)) i x = _
    unfold tuS
    rw [I]
    by_cases e : i = s
    · rw [if_pos ((or_bit s hs i hi).mpr e), if_neg (by omega), if_pos (by omega), e, Int32.zero_or]
    · rw [if_neg (fun z => e ((or_bit s hs i hi).mp z))]
      by_cases lt : s < i
      · rw [if_pos lt, if_pos (by omega)]
      · rw [if_neg lt, if_neg (by omega)]) 10 0 0 (by omega) rfl
  rw [if_pos hs] at I
  exact I
def orN (a : Nat → Int32) (s f : Nat) : Nat := (a (71 + (10 * f + s))).toNatClampNeg
theorem orN_eq {c : CS_c} {a : Nat → Int32} (R : RC c a) {s f : Nat} (hs : s < 10) (hf : f < 5) : a (71 + (10 * f + s)) = nI (orN a s f) ∧ orN a s f < 10 := by
  have hb := bd_turns R (h := 10 * f + s) (by omega)
  obtain ⟨y, hy, ey⟩ := p_rng2 (n := 9) (by decide) hb.1 hb.2
  unfold orN
  rw [ey, nI_clamp (by omega)]
  exact ⟨rfl, by omega⟩
def orJ (cs0 : CS) (ms0 : MS) (cs : CS) (ms : MS) : Prop := cF cs0 cs ∧ qF ms0 ms
theorem order_SH {cs0 : CS} {ms0 : MS} (R : RC cs0.1 (ms_a ms0)) (hg : cx_m_toGladness cs0 = 1) {m : Nat} (hm : m < 10) : SH 10 9 false m (fun s => 2 ^ s) (fun f => orN (ms_a ms0) m f) (fun s => s = 9) (fun _ s => s < 10) (orJ cs0 ms0) wC_X5_moved wC_X5_arrived (fun s f S post => wM_moodBy (nI f) (nI s) S post) := by
  refine ⟨?_, ?_, ?_, ?_, ?_, ?_, ?_, by decide, by decide, hm⟩
  · intro cs ms cs' ms' j h g
    exact ⟨cF_trans j.1 h, qF_trans j.2 g⟩
  · intro D s f cs ms j hs hf _
    obtain ⟨e1, e2⟩ := orN_eq R hs hf
    have R' : RC cs.1 (ms_a ms) := by
      rw [cF_city j.1, j.2.2.1]
      exact R
    refine ⟨orN (ms_a ms0) s f, cs, ms, e2, j, sS_refl _, sQ_refl _, ?_, ?_, ?_⟩
    · intro post hp
      unfold wC_X5_moved
      refine q_turnedSet R' hf _ _ ?_
      rw [tuV_one _ hs, j.2.2.1, e1, nI_shl _ (by omega)]
      exact hp
    · intro post hp
      show wM_moodBy (nI f) (nI s) ms post
      rw [m_moodBy hf hs, j.2.2.1, e1]
      exact hp
    · intro _
      exact ⟨rfl, fun e => by rw [e]⟩
  · intro D s cs ms j hs post h
    unfold wC_X5_arrived
    rw [j.1.2.2.1, hg]
    refine p_no (by decide) (p_two (fun e => h.1 ((or_pow s hs).2.mp e)) (fun e => h.2 (fun z => e ((or_pow s hs).2.mpr z))))
  · intro D s hs
    exact ⟨(or_pow s hs).1, hs⟩
  · intro D D' s s' hs hs' _ e
    exact or_inj s hs s' hs' e
  · intro z
    cases z
  · intro _ _ _ s hs
    exact hs
theorem order_RR (J : CS → MS → Prop) (p : Int32) (post : Int32 → MS → Prop) : RR 10 9 false (fun s => s = 9) (fun _ s => s < 10) J (fun s f S post => wM_moodBy (nI f) (nI s) S post) (fun k S => ∃ n, wM_order_25 post n p (nI k) S) (fun k f S => ∃ n m, wM_order_55 post (wM_order_25 post n) m p (nI k) (nI f) S) (fun s S => wM_wayTo (nI s) p S post) := by
  refine ⟨?_, ?_, ?_, ?_, ?_⟩
  · rintro n qs qd qc cs ms k j R hk hv hd na ⟨n0, m0, h⟩
    have nn := RepQ_n R
    obtain ⟨k1, k2, k3, k4⟩ := R.2.1 k hk
    refine ⟨n0 + 1, ?_⟩
    rw [wM_order_25, R.1, nI_clamp (by omega), k2]
    refine p_no (nI_ge hk (by omega)) ⟨vp_in_nI (by omega) (by decide), p_no ?_ ⟨m0, h⟩⟩
    intro z
    exact na ((nI_eq (b := 9) (by omega) (by decide)).mp z)
  · rintro n qs qd qc cs ms k f j R hk hv hd hf s' ms' ms2 sq h1 h2 _ ⟨n0, m0, h⟩
    have nn := RepQ_n R
    obtain ⟨k1, k2, k3, k4⟩ := R.2.1 k hk
    refine ⟨n0, m0 + 1, ?_⟩
    rw [wM_order_55, nI_clamp (by omega), k2]
    refine p_no (nI_ge (b := 5) hf (by decide)) ⟨vp_in_nI (by omega) (by decide), h1 _ ⟨vp_in_nI (by omega) (by decide), ?_⟩⟩
    rw [sq.1, k2, nI_1]
    exact h2 _ h
  · intro n qs qd qc cs ms k j R hk hv z
    cases z
  · rintro k ms hk ⟨n0, h⟩
    refine ⟨n0, 1, ?_⟩
    rw [wM_order_55, nI_1]
    exact p_yes (by decide) h
  · intro n qs qd qc cs ms k j R hk hv hd a h
    have nn := RepQ_n R
    obtain ⟨k1, k2, k3, k4⟩ := R.2.1 k hk
    refine ⟨1, ?_⟩
    rw [wM_order_25, R.1, nI_clamp (by omega), k2]
    rw [a] at h ⊢
    exact p_no (nI_ge hk (by omega)) ⟨vp_in_nI (by omega) (by decide), p_yes rfl h⟩
theorem gl_t1 (S : CS) (x : Int32) : cx_m_toGladness (cx_set_m_toGladness S x) = x := by
  simp only [cx_m_toGladness, cx_set_m_toGladness]
theorem gl_eC (S : CS) (x : Int32) : eC S (cx_set_m_toGladness S x) := by
  refine ⟨?_, ?_, ?_, ?_⟩ <;> simp only [cx_set_m_toGladness]
theorem gl_city (S : CS) (x : Int32) : (cx_set_m_toGladness S x).1 = S.1 := by
  simp only [cx_set_m_toGladness]
theorem gl_now (S : CS) (x : Int32) : cx_c_now (cx_set_m_toGladness S x) = cx_c_now S := by
  simp only [cx_c_now, cx_set_m_toGladness]
/-- what stays behind a search by moods -/
theorem mood_Rel {cs cs' : CS} {ms ms1 ms' : MS} {x : Int32} (R : Rel cs ms) (f1 : qF ms ms1) (h : cF (cx_set_m_toGladness cs x) cs') (g : qF ms1 ms') : Rel cs' ms' := by
  refine Rel_e R (eC_trans (gl_eC cs x) h.1) (eM_trans f1.1 g.1) ?_ (g.2.1.trans f1.2.1)
  rw [h.2.1, gl_now]
  exact R.1.1.1
theorem sim_order {cs : CS} {ms : MS} (R : Rel cs ms) (p1 p2 : Int32) : ∃ (r : Int32) (cs' : CS) (ms' : MS), rt (wC_X11_order p1 p2 cs) r cs' ∧ rt (wM_order p1 p2 ms) r ms' ∧ Rel cs' ms' := by
  have hH := bd_houses R.1.1
  have eH := rd_houses R.1.1
  by_cases c : 0 ≤ p1 ∧ p1 < ms_a ms 0
  · obtain ⟨h, hh, rfl⟩ := p_rng (n := 6) (by decide) c.1 (Int32.lt_of_lt_of_le c.2 hH.2)
    have bm := bd_mood R.1.1 hh
    obtain ⟨m, hm, em⟩ := p_rng2 (n := 9) (by decide) bm.1 bm.2
    obtain ⟨ms1, R1, f1, b1⟩ := m_beginAt (N := 10) (s := m) (by decide) (by omega) ms
    obtain ⟨cs1, e1⟩ : ∃ z, z = cx_set_m_toGladness cs 1 := ⟨_, rfl⟩
    have RC1 : RC cs1.1 (ms_a ms1) := by
      rw [e1, gl_city, f1.2.1]
      exact R.1.1
    have H := order_SH RC1 (by rw [e1, gl_t1]) (m := m) (by omega)
    obtain ⟨cw, hcw, res⟩ := ls_all H (cg := 0) ⟨(fun z => by cases z), fun _ => rfl⟩ (cs := cs1) (ms := ms1) ⟨cF_refl _, qF_refl _⟩ R1
    have cls : ∀ post : Int32 → CS → Prop, cw (fun S_9 => wC_X7_answer p2 S_9 (fun r_10 S_11 => post r_10 S_11)) → wC_X11_order (nI h) p2 cs post := by
      intro post hp
      unfold wC_X11_order
      rw [q_hasHouse, p_b0, eH]
      refine p_val c ?_
      rw [q_see_mood hh, rd_mood R.1.1 hh, em]
      unfold wC_X5_fromMood
      rw [p_all, nI_shl m (by omega), ← e1]
      exact q_find_mood _ (hcw _ hp)
    have ref : ∀ post : Int32 → MS → Prop, (∃ n, wM_order_25 post n p2 (nI 0) ms1) → wM_order (nI h) p2 ms post := by
      intro post hp
      unfold wM_order
      rw [m_isHouse _ hH, p_b0]
      refine p_val c ?_
      rw [m_get_mood hh, em]
      exact b1 _ hp
    rcases res with ⟨csF, msF, b, n, qs, qd, qc, x1, x2, x3, x4, x5, x6, x7, x8, x9⟩ | ⟨L, c', csF, msF, n, qs, qd, qc, p, x1, x2, x3, x4, x5, x6, x7, x8, ⟨ms0, x9⟩, ⟨cs0, x10⟩, x11, x12⟩
    · refine ⟨-2, csF, msF, ?_, ?_, mood_Rel R f1 (by rw [← e1]; exact x2.1) x2.2⟩
      · intro post hp
        exact cls post (x8 _ (q_ansNone x1 _ _ hp))
      · intro post hp
        refine ref post (x9 _ _ _ (order_RR (orJ cs1 ms1) p2 post) ⟨1, ?_⟩)
        have eb : b = n := by
          by_cases lt : b < n
          · exfalso
            have h9 := x7 lt
            have := php 9 n qs (by
              intro i hi
              have q1 := (x4 i hi).1
              have q2 := (x4 i hi).2
              have q1' : qs i < 10 := q1
              have q2' : ¬ qs i = 9 := q2
              omega) x3.2.2.1
            omega
          · omega
        rw [wM_order_25, x3.1, eb]
        exact p_yes (Int32.le_refl _) hp
    · refine ⟨wayV L c' p2, csF, msF, ?_, ?_, mood_Rel R f1 (by rw [← e1]; exact x9.1) x10.2⟩
      · intro post hp
        exact cls post (x11 _ (q_answer x5 x6 x7 x8 p2 _ hp))
      · intro post hp
        refine ref post (x12 _ _ _ (order_RR (orJ cs1 ms1) p2 post) ?_)
        refine m_wayTo (by decide) x2 x1 p2 post ?_
        rw [x3, x4]
        exact hp
  · refine ⟨-2, cs, ms, ?_, ?_, R⟩
    · intro post hp
      unfold wC_X11_order
      rw [q_hasHouse, p_b0, eH]
      exact p_inv hp (fun c1 => absurd c1 c)
    · intro post hp
      unfold wM_order
      rw [m_isHouse _ hH, p_b0]
      exact p_inv hp (fun c1 => absurd c1 c)
/-! every mood at once -/
def alN (a : Nat → Int32) (s f : Nat) : Nat := (tuV a f (nI s)).toNatClampNeg
theorem alN_eq {c : CS_c} {a : Nat → Int32} (R : RC c a) (s : Nat) {f : Nat} (hf : f < 5) : tuV a f (nI s) = nI (alN a s f) ∧ alN a s f < 1024 := by
  obtain ⟨m, hm, e⟩ := tuV_lt R hf (nI s)
  unfold alN
  rw [e, nI_clamp (by omega)]
  exact ⟨rfl, hm⟩
theorem pop_eq {s : Nat} (hs : s < 1024) : (nI (popN s) = 1) = (popN s = 1) := by
  have : popN s ≤ 10 := by
    unfold popN
    omega
  apply propext
  exact nI_eq (b := 1) (by omega) (by decide)
theorem all_SH {cs0 : CS} {ms0 : MS} (R : RC cs0.1 (ms_a ms0)) (hg : cx_m_toGladness cs0 = 0) : SH 1024 20 false 1023 (fun s => s) (fun f => alN (ms_a ms0) 1023 f) (fun s => popN s = 1) (fun _ s => s < 1024) (orJ cs0 ms0) wC_X5_moved wC_X5_arrived (fun s f S post => wM_moodsBy (nI f) (nI s) S post) := by
  refine ⟨?_, ?_, ?_, ?_, ?_, ?_, ?_, by decide, by decide, by decide⟩
  · intro cs ms cs' ms' j h g
    exact ⟨cF_trans j.1 h, qF_trans j.2 g⟩
  · intro D s f cs ms j hs hf _
    obtain ⟨e1, e2⟩ := alN_eq R s hf
    have R' : RC cs.1 (ms_a ms) := by
      rw [cF_city j.1, j.2.2.1]
      exact R
    refine ⟨alN (ms_a ms0) s f, cs, ms, e2, j, sS_refl _, sQ_refl _, ?_, ?_, ?_⟩
    · intro post hp
      unfold wC_X5_moved
      refine q_turnedSet R' hf _ _ ?_
      rw [j.2.2.1, e1]
      exact hp
    · intro post hp
      refine m_moodsBy hf _ _ _ ?_
      rw [j.2.2.1, e1]
      exact hp
    · intro _
      exact ⟨rfl, fun e => by rw [e]⟩
  · intro D s cs ms j hs post h
    unfold wC_X5_arrived
    rw [j.1.2.2.1, hg]
    refine p_yes rfl (q_bitCount hs cs _ ?_)
    rw [pop_eq hs]
    exact h
  · intro D s hs
    exact ⟨hs, hs⟩
  · intro D D' s s' hs hs' _ e
    exact e
  · intro z
    cases z
  · intro _ _ _ s hs
    exact hs
theorem all_RR (J : CS → MS → Prop) (p : Int32) (post : Int32 → MS → Prop) : RR 1024 20 false (fun s => popN s = 1) (fun _ s => s < 1024) J (fun s f S post => wM_moodsBy (nI f) (nI s) S post) (fun k S => ∃ n, wM_all_12 post n p (nI k) S) (fun k f S => ∃ n m, wM_all_63 post (wM_all_12 post n) m p (nI k) (nI f) S) (fun s S => wM_wayTo (nI s) p S post) := by
  refine ⟨?_, ?_, ?_, ?_, ?_⟩
  · rintro n qs qd qc cs ms k j R hk hv hd na ⟨n0, m0, h⟩
    have nn := RepQ_n R
    obtain ⟨k1, k2, k3, k4⟩ := R.2.1 k hk
    refine ⟨n0 + 1, ?_⟩
    rw [wM_all_12, R.1, nI_clamp (n := k) (by omega), k2, nI_clamp (by omega), k3]
    refine p_no (nI_ge hk (by omega)) ⟨vp_in_nI (by omega) (by decide), vp_in_nI (by omega) (by decide), p_no ?_ ⟨vp_in_nI (by omega) (by decide), m_bits k1 ms _ ?_⟩⟩
    · intro z
      have := (nI_ltI (a := 20) (by decide) (by omega)).mp z
      omega
    · rw [pop_eq k1]
      exact p_no na ⟨m0, h⟩
  · rintro n qs qd qc cs ms k f j R hk hv hd hf s' ms' ms2 sq h1 h2 _ ⟨n0, m0, h⟩
    have nn := RepQ_n R
    obtain ⟨k1, k2, k3, k4⟩ := R.2.1 k hk
    refine ⟨n0, m0 + 1, ?_⟩
    rw [wM_all_63, nI_clamp (by omega), k2]
    refine p_no (nI_ge (b := 5) hf (by decide)) ⟨vp_in_nI (by omega) (by decide), h1 _ ⟨vp_in_nI (by omega) (by decide), ?_⟩⟩
    rw [sq.1, k2, nI_1]
    exact h2 _ h
  · intro n qs qd qc cs ms k j R hk hv z
    cases z
  · rintro k ms hk ⟨n0, h⟩
    refine ⟨n0, 1, ?_⟩
    rw [wM_all_63, nI_1]
    exact p_yes (by decide) h
  · intro n qs qd qc cs ms k j R hk hv hd a h
    have nn := RepQ_n R
    obtain ⟨k1, k2, k3, k4⟩ := R.2.1 k hk
    refine ⟨1, ?_⟩
    rw [wM_all_12, R.1, nI_clamp (n := k) (by omega), k2, nI_clamp (n := qs k) (by omega), k3]
    refine p_no (nI_ge hk (by omega)) ⟨vp_in_nI (by omega) (by decide), vp_in_nI (by omega) (by decide), p_no (fun z => ?_) ⟨vp_in_nI (by omega) (by decide), m_bits k1 ms _ ?_⟩⟩
    · have := (nI_ltI (a := 20) (by decide) (by omega)).mp z
      omega
    · rw [pop_eq k1]
      refine p_yes a ⟨vp_in_nI (by omega) (by decide), ?_⟩
      rw [k2]
      exact h
/-- behind the twentieth layer the reference comes to nothing more -/
theorem all_rest {cs0 : CS} {ms0 : MS} (H : SH 1024 20 false 1023 (fun s => s) (fun f => alN (ms_a ms0) 1023 f) (fun s => popN s = 1) (fun _ s => s < 1024) (orJ cs0 ms0) wC_X5_moved wC_X5_arrived (fun s f S post => wM_moodsBy (nI f) (nI s) S post)) {e : Nat} : ∀ (d k n : Nat) (qs qd qc : Nat → Nat) (cs : CS) (ms : MS), k + d = e → orJ cs0 ms0 cs ms → RepQ 1024 n qs qd qc ms → (∀ i, i < n → qs i < 1024) → e ≤ n → (∀ i, i < e → ¬ popN (qs i) = 1) → (∀ i, k ≤ i → i < e → qd i = 20) → (∀ i, e ≤ i → i < n → qd i = 21) → ∃ (cs' : CS) (ms' : MS), orJ cs0 ms0 cs' ms' ∧ ∀ (p : Int32) (post : Int32 → MS → Prop), post (-2) ms' → ∃ n0, wM_all_12 post n0 p (nI k) ms := by
  intro d
  induction d with
  | zero =>
    intro k n qs qd qc cs ms ek j R hv he hn h20 h21
    have e0 : k = e := by omega
    subst e0
    have nn := RepQ_n R
    refine ⟨cs, ms, j, ?_⟩
    intro p post hp
    refine ⟨1, ?_⟩
    rw [wM_all_12, R.1]
    by_cases c : n ≤ k
    · exact p_yes (nI_le c (by omega)) hp
    · obtain ⟨k1, k2, k3, k4⟩ := R.2.1 k (by omega)
      rw [nI_clamp (n := k) (by omega), k2, nI_clamp (by omega), k3, h21 k (by omega) (by omega)]
      exact p_no (nI_ge (by omega) (by omega)) ⟨vp_in_nI (by omega) (by decide), vp_in_nI (by omega) (by decide), p_yes (by decide) hp⟩
  | succ d ih =>
    intro k n qs qd qc cs ms ek j R hv he hn h20 h21
    have dk := h20 k (by omega) (by omega)
    obtain ⟨n1, qs1, qd1, qc1, cs1, ms1, x1, x2, x3, x4, x5, x6⟩ := ref_exp H 5 0 n qs qd qc k cs ms (by omega) j R (fun i hi => hv i hi) (by omega) (Or.inr rfl)
    obtain ⟨cs', ms', y1, y2⟩ := ih (k + 1) n1 qs1 qd1 qc1 cs1 ms1 (by omega) x2 x3 (fun i hi => x4 i hi) (by have := x1.1; omega) (by
      intro i hi
      have q := x1.2 i (by omega)
      rw [q.1]
      exact hn i hi) (by
      intro i h1 h2
      have q := x1.2 i (by omega)
      rw [q.2.1]
      exact h20 i (by omega) h2) (by
      intro i h1 h2
      by_cases lt : i < n
      · have q := x1.2 i lt
        rw [q.2.1]
        exact h21 i h1 lt
      · rw [x5 i (by omega) h2, dk])
    refine ⟨cs', ms', y1, ?_⟩
    intro p post hp
    have rr := all_RR (orJ cs0 ms0) p post
    exact rr.1 n qs qd qc cs ms k j R (by omega) (hv k (by omega)) (by omega) (hn k (by omega)) (x6 _ _ _ rr (y2 p post hp))
theorem sim_all {cs : CS} {ms : MS} (R : Rel cs ms) (p1 : Int32) : ∃ (r : Int32) (cs' : CS) (ms' : MS), rt (wC_X11_all p1 cs) r cs' ∧ rt (wM_all p1 ms) r ms' ∧ Rel cs' ms' := by
  obtain ⟨ms1, R1, f1, b1⟩ := m_beginAt (N := 1024) (s := 1023) (by decide) (by decide) ms
  obtain ⟨cs1, e1⟩ : ∃ z, z = cx_set_m_toGladness cs 0 := ⟨_, rfl⟩
  have RC1 : RC cs1.1 (ms_a ms1) := by
    rw [e1, gl_city, f1.2.1]
    exact R.1.1
  have H := all_SH RC1 (by rw [e1, gl_t1])
  obtain ⟨cw, hcw, res⟩ := ls_all H (cg := 0) ⟨(fun z => by cases z), fun _ => rfl⟩ (cs := cs1) (ms := ms1) ⟨cF_refl _, qF_refl _⟩ R1
  have cls : ∀ post : Int32 → CS → Prop, cw (fun S_4 => wC_X7_answer p1 S_4 (fun r_5 S_6 => post r_5 S_6)) → wC_X11_all p1 cs post := by
    intro post hp
    unfold wC_X11_all wC_X5_fromEveryMood
    rw [p_all, ← e1]
    exact q_find_mood _ (hcw _ hp)
  have ref : ∀ post : Int32 → MS → Prop, (∃ n, wM_all_12 post n p1 (nI 0) ms1) → wM_all p1 ms post := by
    intro post hp
    unfold wM_all
    exact b1 _ hp
  rcases res with ⟨csF, msF, b, n, qs, qd, qc, x1, x2, x3, x4, x5, x6, x7, x8, x9⟩ | ⟨L, c', csF, msF, n, qs, qd, qc, p, x1, x2, x3, x4, x5, x6, x7, x8, ⟨ms0, x9⟩, ⟨cs0, x10⟩, x11, x12⟩
  · obtain ⟨cs', ms', y1, y2⟩ := all_rest H (e := n) (n - b) b n qs qd qc csF msF (by omega) x2 x3 (fun i hi => (x4 i hi).1) (Nat.le_refl _) (fun i hi => (x4 i hi).2) x6 (fun i h1 h2 => by omega)
    refine ⟨-2, csF, ms', ?_, ?_, mood_Rel R f1 (by rw [← e1]; exact x2.1) y1.2⟩
    · intro post hp
      exact cls post (x8 _ (q_ansNone x1 _ _ hp))
    · intro post hp
      exact ref post (x9 _ _ _ (all_RR (orJ cs1 ms1) p1 post) (y2 p1 post hp))
  · refine ⟨wayV L c' p1, csF, msF, ?_, ?_, mood_Rel R f1 (by rw [← e1]; exact x9.1) x10.2⟩
    · intro post hp
      exact cls post (x11 _ (q_answer x5 x6 x7 x8 p1 _ hp))
    · intro post hp
      refine ref post (x12 _ _ _ (all_RR (orJ cs1 ms1) p1 post) ?_)
      refine m_wayTo (by decide) x2 x1 p1 post ?_
      rw [x3, x4]
      exact hp
