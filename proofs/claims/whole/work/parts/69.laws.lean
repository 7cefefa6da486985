/-! PURE LAYER: easing, laughing, growing -/
theorem q_textNone {p : Int32} (h : p < 0) (S : CS) (post : Option Nat → CS → Prop) (hp : post none S) : wC_X0_textAt p S post := p_yes h hp
theorem q_textAt {t : Nat} (ht : t < 4) {S : CS} (h : nI t < cx_c_textCount S) (post : Option Nat → CS → Prop) (hp : post (cx_c_texts S t) S) : wC_X0_textAt (nI t) S post := by
  unfold wC_X0_textAt
  rw [nI_clamp (by omega)]
  exact p_no (nI_pos (by omega)) (p_no (Int32.not_le.mpr h) (p_no (nI_ge (b := 4) ht (by decide)) ⟨vp_in_nI ht (by decide), hp⟩))
theorem m_says_neg {p : Int32} (h : p < 0) (so wo top : Int32) (S : MS) (post : Int32 → MS → Prop) (hp : post (hd wo top) S) : wM_says p so wo top S post := by
  refine ⟨1, ?_⟩
  rw [wM_says_3, m_cut]
  exact p_yes h hp
theorem m_says_no {t s n : Nat} (ht : t < 4) (hn : n ≤ 24) (S : MS) (e0 : ms_texts S (705 * t) = nI n) (hk : ∀ k, k < n → ms_texts S (705 * t + (1 + 4 * k)) ≠ nI s) (wo top : Int32) (post : Int32 → MS → Prop) (hp : post (hd wo top) S) : wM_says (nI t) (nI s) wo top S post := by
  refine ⟨n + 1, up_loop (fun m (_ : Unit) i => wM_says_3 post m (nI t) (nI s) wo top i S) (fun _ x => x) (fun _ => post (hd wo top) S) n ?_ ?_ () hp⟩
  · intro m _ q
    show wM_says_3 post (m + 1) (nI t) (nI s) wo top (nI n) S
    rw [wM_says_3, m_cut, nI_lm 705 t, nI_clamp (by omega), e0]
    exact p_no (nI_pos (by omega)) ⟨vp_in_nI (by omega) (by decide), p_yes (Int32.le_refl _) q⟩
  · intro m i _ hi q
    show wM_says_3 post (m + 1) (nI t) (nI s) wo top (nI i) S
    rw [wM_says_3, nI_lm 705 t, nI_clamp (by omega), e0, nI_1, nI_lm 4 i, nI_add, nI_clamp (by omega), nI_1, show 705 * t + 1 + 4 * i = 705 * t + (1 + 4 * i) by omega]
    exact p_no (nI_pos (by omega)) ⟨vp_in_nI (by omega) (by decide), p_no (nI_ge hi (by omega)) ⟨vp_in_nI (by omega) (by decide), p_no (hk i hi) q⟩⟩
theorem m_says_yes {t s n k : Nat} (ht : t < 4) (hn : n ≤ 24) (hkn : k < n) (S : MS) (e0 : ms_texts S (705 * t) = nI n) (ek : ms_texts S (705 * t + (1 + 4 * k)) = nI s) (hk : ∀ j, j < k → ms_texts S (705 * t + (1 + 4 * j)) ≠ nI s) (wo top : Int32) (post : Int32 → MS → Prop) (hp : wM_summedUp (nI t) (nI k) S (fun r_8 S_9 => wM_cut r_8 0 top S_9 (fun r_10 S_11 => post r_10 S_11))) : wM_says (nI t) (nI s) wo top S post := by
  refine ⟨k + 1, up_loop (fun m (_ : Unit) i => wM_says_3 post m (nI t) (nI s) wo top i S) (fun _ x => x) (fun _ => wM_summedUp (nI t) (nI k) S (fun r_8 S_9 => wM_cut r_8 0 top S_9 (fun r_10 S_11 => post r_10 S_11))) k ?_ ?_ () hp⟩
  · intro m _ q
    show wM_says_3 post (m + 1) (nI t) (nI s) wo top (nI k) S
    rw [wM_says_3, nI_lm 705 t, nI_clamp (by omega), e0, nI_1, nI_lm 4 k, nI_add, nI_clamp (by omega), show 705 * t + 1 + 4 * k = 705 * t + (1 + 4 * k) by omega]
    exact p_no (nI_pos (by omega)) ⟨vp_in_nI (by omega) (by decide), p_no (nI_ge hkn (by omega)) ⟨vp_in_nI (by omega) (by decide), p_yes ek q⟩⟩
  · intro m i _ hi q
    show wM_says_3 post (m + 1) (nI t) (nI s) wo top (nI i) S
    rw [wM_says_3, nI_lm 705 t, nI_clamp (by omega), e0, nI_1, nI_lm 4 i, nI_add, nI_clamp (by omega), nI_1, show 705 * t + 1 + 4 * i = 705 * t + (1 + 4 * i) by omega]
    exact p_no (nI_pos (by omega)) ⟨vp_in_nI (by omega) (by decide), p_no (nI_ge (by omega) (by omega)) ⟨vp_in_nI (by omega) (by decide), p_no (hk i hi) q⟩⟩
theorem q_hasLaw {ad : Nat} {B : TB} {s : Nat} {x y : Int32} (hs : s < 3) (h6 : B.2.2.2.2.1 = 6) (b1 : B.2.2.2.2.2 (2 * s) = x) (b2 : B.2.2.2.2.2 (2 * s + 1) = y) {S : CS} (hm : (ad, B) ∈ cx_px S) (post : Int32 → CS → Prop) (hp : (y ≤ x → post 0 S) ∧ (¬ y ≤ x → post 1 S)) : wC_X9_hasLaw ad (nI s) S post := by
  unfold wC_X9_hasLaw wC_X9_startOf wC_X9_stopOf
  refine ⟨B, hm, B, hm, by omega, B, hm, B, hm, by omega, ?_⟩
  rw [h6, nI_ml 2 s, nI_1, p_at (by decide) _ (show s * 2 + 1 < 6 by omega), p_at (by decide) _ (show s * 2 < 6 by omega), Nat.mul_comm s 2, b1, b2]
  exact hp
theorem law_at {cs : CS} {ms : MS} (R : Rel0 cs ms) {t s : Nat} (ht : t < 4) (htc : nI t < ms_a ms 2) (hs : s < 3) : ∃ ad : Nat, cx_c_texts cs t = some ad ∧ (∃ B : TB, (ad, B) ∈ cx_px cs) ∧ (((∀ (S : CS) (post : Int32 → CS → Prop), cx_px S = cx_px cs → post 0 S → wC_X9_hasLaw ad (nI s) S post) ∧ (∀ (S : MS) (wo top : Int32) (post : Int32 → MS → Prop), ms_texts S = ms_texts ms → post (hd wo top) S → wM_says (nI t) (nI s) wo top S post)) ∨ ((∀ (S : CS) (post : Int32 → CS → Prop), cx_px S = cx_px cs → post 1 S → wC_X9_hasLaw ad (nI s) S post) ∧ (∀ (cs1 : CS) (ms1 : MS), sC cs cs1 → ms_texts ms1 = ms_texts ms → (∀ k, k ≠ 8 → ms_a ms1 k = ms_a ms k) → NM s cs1 ms1 → ∃ (r : Int32) (cs' : CS) (ms' : MS), bdV r ∧ sC cs1 cs' ∧ sM ms1 ms' ∧ rt (wC_X3_worked (some ad) (nI s) cs1) r cs' ∧ (∀ (wo top : Int32) (post : Int32 → MS → Prop), post (hd r top) ms' → wM_says (nI t) (nI s) wo top ms1 post)))) := by
  have hX := R.2.2.2.1
  have etc : cc_textCount cs.1 = ms_a ms 2 := rc_textCount R.1
  obtain ⟨ad, B, e1, hm, n, hn, _, x0, _, h6, hc, _, hL⟩ := hX.1 t ht (by rw [etc]; exact htc)
  have x0' : ms_texts ms (705 * t) = nI n := x0
  refine ⟨ad, e1, ⟨B, hm⟩, ?_⟩
  rcases hL s hs with ⟨g1, g2, g3⟩ | ⟨k, i0, L, k1, k2, k3, k4, k5, k6, k7, k8, k9, k10, k11⟩
  · left
    refine ⟨?_, ?_⟩
    · intro S post ep hp
      refine q_hasLaw hs h6 g2 g3 (by rw [ep]; exact hm) post (p_yes (Int32.le_refl _) hp)
    · intro S wo top post et hp
      refine m_says_no ht hn S (by rw [et]; exact x0') ?_ wo top post hp
      intro k hk
      rw [et]
      exact g1 k hk
  · right
    refine ⟨?_, ?_⟩
    · intro S post ep hp
      refine q_hasLaw hs h6 k6 k7 (by rw [ep]; exact hm) post (p_no (nI_ge (by omega) (by omega)) hp)
    · intro cs1 ms1 hsc et hA hN
      have RC1 : RC cs1.1 (ms_a ms) := by
        rw [hsc.1]
        exact R.1
      have ep : cx_px cs1 = cx_px cs := hsc.2.2.2.1
      obtain ⟨r, cs', ms', hb, s1, s2, hC, hM⟩ := work_eq (s := s) (t := t) (k := k) (i0 := i0) (L := L) (cs := cs1) (ms := ms1) (ad := ad) (B := B) hs ht (by omega) hN RC1 hA (by rw [ep]; exact hm) h6 hc (by rw [et]; exact k4) (by rw [et]; exact k5) k6 k7 k8 (by rw [et]; exact k10) k11
      refine ⟨r, cs', ms', hb, s1, s2, hC, ?_⟩
      intro wo top post hp
      refine m_says_yes ht hn k1 ms1 (by rw [et]; exact x0') (by rw [et]; exact k2) ?_ wo top post (hM _ ?_)
      · intro j hj e
        rw [et] at e
        have := k3 j (by omega) e
        omega
      · rw [m_cut]
        exact hp
theorem hld_hd {r top : Int32} (h : 0 ≤ top) : hldV r 0 top = hd r top := by
  unfold hldV hd
  by_cases a : r < 0
  · rw [if_neg (Int32.not_le.mpr a), if_pos a, if_pos h]
  · rw [if_pos (Int32.not_lt.mp a), if_neg a]
    by_cases b : top < r
    · rw [if_neg (Int32.not_le.mpr b), if_pos b]
    · rw [if_pos (Int32.not_lt.mp b), if_neg b]
theorem hd_bd {r top : Int32} (h : 0 ≤ top) : 0 ≤ hd r top ∧ hd r top ≤ top := by
  unfold hd
  by_cases a : r < 0
  · rw [if_pos a]
    exact ⟨Int32.le_refl _, h⟩
  · rw [if_neg a]
    by_cases b : top < r
    · rw [if_pos b]
      exact ⟨h, Int32.le_refl _⟩
    · rw [if_neg b]
      exact ⟨Int32.not_lt.mp a, Int32.not_lt.mp b⟩
theorem hd_id {r top : Int32} (h0 : 0 ≤ r) (h1 : r ≤ top) : hd r top = r := by
  unfold hd
  rw [if_neg (Int32.not_lt.mpr h0), if_neg (Int32.not_lt.mpr h1)]
/-! names -/
def nmH (a : Nat → Int32) (h : Nat) (f : Nat → Int32) : Nat → Int32 := upd (upd (upd (upd (upd (upd f 0 (a 7)) 1 (a (14 + 6 * h))) 2 (a (10 + 6 * h))) 3 (a (11 + 6 * h))) 4 (a (13 + 6 * h))) 5 (nI h)
def nmC (a : Nat → Int32) (c v : Nat) (f : Nat → Int32) : Nat → Int32 := upd (upd (upd (upd (upd f 6 (a (49 + 5 * c))) 7 (a (50 + 5 * c))) 8 (a (46 + 5 * c))) 9 (nI v)) 10 (nI c)
theorem n_t1 (S : CS) (f : Nat → Int32) : cx_c_now (cx_set_l_named S f) = cx_c_now S := by
  simp only [cx_c_now, cx_set_l_named]
theorem n_t2 (S : CS) (f : Nat → Int32) : cx_c_kinds (cx_set_l_named S f) = cx_c_kinds S := by
  simp only [cx_c_kinds, cx_set_l_named]
theorem n_t3 (S : CS) (f : Nat → Int32) : cx_c_skills (cx_set_l_named S f) = cx_c_skills S := by
  simp only [cx_c_skills, cx_set_l_named]
theorem n_t4 (S : CS) (f : Nat → Int32) : cx_c_ages (cx_set_l_named S f) = cx_c_ages S := by
  simp only [cx_c_ages, cx_set_l_named]
theorem n_t5 (S : CS) (f : Nat → Int32) : cx_l_named (cx_set_l_named S f) = f := by
  simp only [cx_l_named, cx_set_l_named]
theorem n_t6 (S : CS) (f g : Nat → Int32) : cx_set_l_named (cx_set_l_named S f) g = cx_set_l_named S g := by
  simp only [cx_set_l_named]
theorem n_sC (S : CS) (f : Nat → Int32) : sC S (cx_set_l_named S f) := by
  refine ⟨?_, ?_, ?_, ?_, ?_⟩ <;> simp only [cx_set_l_named]
theorem k_t1 (S : MS) (f : Nat → Int32) : ms_a (ms_set_named S f) = ms_a S := by
  simp only [ms_a, ms_set_named]
theorem k_t2 (S : MS) (f : Nat → Int32) : ms_named (ms_set_named S f) = f := by
  simp only [ms_named, ms_set_named]
theorem k_t3 (S : MS) (f g : Nat → Int32) : ms_set_named (ms_set_named S f) g = ms_set_named S g := by
  simp only [ms_set_named]
theorem k_sM (S : MS) (f : Nat → Int32) : sM S (ms_set_named S f) := by
  refine ⟨?_, ?_, ?_, ?_, ?_, ?_, ?_, ?_⟩ <;> simp only [ms_a, ms_image, ms_texts, ms_tape, ms_taped, ms_fault, ms_faultPlace, ms_set_named]
theorem q_nameHouse {S : CS} {a : Nat → Int32} (R : RC S.1 a) {h : Nat} (hh : h < 6) (post : CS → Prop) (hp : post (cx_set_l_named S (nmH a h (cx_l_named S)))) : wC_X3_nameHouse (nI h) S post := by
  unfold wC_X3_nameHouse
  simp only [q_today, p_all, q_see_grief hh, q_see_mood hh, q_see_laughed hh, p_at (show 6 < 2 ^ 31 by decide) _ hh, n_t1, n_t2, n_t5, n_t6]
  rw [p_putL _ (by decide) 0 (by decide), p_putL _ (by decide) 1 (by decide), p_putL _ (by decide) 2 (by decide), p_putL _ (by decide) 3 (by decide), p_putL _ (by decide) 4 (by decide), p_putL _ (by decide) 5 (by decide), rd_day R, rd_kinds R hh, rd_grief R hh, rd_mood R hh, rd_laughed R hh]
  exact hp
theorem q_nameClown {S : CS} {a : Nat → Int32} (R : RC S.1 a) {c : Nat} (hc : c < 5) (v : Nat) (post : CS → Prop) (hp : post (cx_set_l_named S (nmC a c v (cx_l_named S)))) : wC_X3_nameClown (nI c) (nI v) S post := by
  unfold wC_X3_nameClown
  simp only [p_all, q_see_tired hc, p_at (show 5 < 2 ^ 31 by decide) _ hc, n_t1, n_t3, n_t4, n_t5, n_t6]
  rw [p_putL _ (by decide) 6 (by decide), p_putL _ (by decide) 7 (by decide), p_putL _ (by decide) 8 (by decide), p_putL _ (by decide) 9 (by decide), p_putL _ (by decide) 10 (by decide), rd_skills R hc, rd_ages R hc, rd_tired R hc]
  exact hp
theorem m_nameHouse {h : Nat} (hh : h < 6) (S : MS) (post : MS → Prop) (hp : post (ms_set_named S (nmH (ms_a S) h (ms_named S)))) : wM_nameHouse (nI h) S post := by
  unfold wM_nameHouse
  simp only [p_all, m_get_kind hh, m_get_grief hh, m_get_mood hh, m_get_laughed hh, k_t1, k_t2, k_t3]
  exact hp
theorem m_nameFall {c h : Nat} (hc : c < 5) (hh : h < 6) (v : Nat) {S : MS} (e : ms_a S (47 + 5 * c) = nI h) (post : MS → Prop) (hp : post (ms_set_named S (nmC (ms_a S) c v (nmH (ms_a S) h (ms_named S))))) : wM_nameFall (nI c) (nI v) S post := by
  unfold wM_nameFall
  rw [m_own_at hc, e]
  refine m_nameHouse hh S _ ?_
  simp only [p_all, m_own_skill hc, m_own_age hc, m_own_tired hc, k_t1, k_t2, k_t3]
  exact hp
theorem bdV_of {x l u : Int32} (h : l ≤ x ∧ x ≤ u) (hl : -1000000 ≤ l) (hu : u ≤ 1000000) : bdV x := ⟨Int32.le_trans hl h.1, Int32.le_trans h.2 hu⟩
theorem nm_fall {c : CS_c} {a : Nat → Int32} (R : RC c a) {d h v : Nat} (hd : d < 5) (hh : h < 6) (hv : v < 5) (f g : Nat → Int32) : ∀ k, k < 11 → nmC a d v (nmH a h f) k = nmC a d v (nmH a h g) k ∧ bdV (nmC a d v (nmH a h f) k) := by
  intro k hk
  have b0 := bdV_of (bd_day R) (by decide) (by decide)
  have b1 := bdV_of (bd_kinds R hh) (by decide) (by decide)
  have b2 := bdV_of (bd_grief R hh) (by decide) (by decide)
  have b3 := bdV_of (bd_mood R hh) (by decide) (by decide)
  have b4 := bdV_of (bd_laughed R hh) (by decide) (by decide)
  have b5 : bdV (nI h) := bdV_of ⟨nI_pos' (by omega), nI_le (b := 6) (by omega) (by decide)⟩ (by decide) (by decide)
  have b6 := bdV_of (bd_skills R hd) (by decide) (by decide)
  have b7 := bdV_of (bd_ages R hd) (by decide) (by decide)
  have b8 := bdV_of (bd_tired R hd) (by decide) (by decide)
  have b9 : bdV (nI v) := bdV_of ⟨nI_pos' (by omega), nI_le (b := 6) (by omega) (by decide)⟩ (by decide) (by decide)
  have b10 : bdV (nI d) := bdV_of ⟨nI_pos' (by omega), nI_le (b := 6) (by omega) (by decide)⟩ (by decide) (by decide)
  have : k = 0 ∨ k = 1 ∨ k = 2 ∨ k = 3 ∨ k = 4 ∨ k = 5 ∨ k = 6 ∨ k = 7 ∨ k = 8 ∨ k = 9 ∨ k = 10 := by omega
  rcases this with e | e | e | e | e | e | e | e | e | e | e <;> subst e
  · exact ⟨rfl, b0⟩
  · exact ⟨rfl, b1⟩
  · exact ⟨rfl, b2⟩
  · exact ⟨rfl, b3⟩
  · exact ⟨rfl, b4⟩
  · exact ⟨rfl, b5⟩
  · exact ⟨rfl, b6⟩
  · exact ⟨rfl, b7⟩
  · exact ⟨rfl, b8⟩
  · exact ⟨rfl, b9⟩
  · exact ⟨rfl, b10⟩
theorem ruling_cases {c : CS_c} {a : Nat → Int32} (R : RC c a) : a 3 < 0 ∨ ∃ t : Nat, t < 4 ∧ a 3 = nI t ∧ nI t < a 2 := by
  have hb := bd_ruling R
  have hl := R.2.2.2.2
  by_cases h : a 3 < 0
  · exact Or.inl h
  · obtain ⟨t, ht, e⟩ := p_rng2 (n := 3) (by decide) (Int32.not_lt.mp h) hb.2
    refine Or.inr ⟨t, by omega, e, ?_⟩
    rw [← e]
    exact hl
theorem nm_AB {a b : Nat → Int32} (hA : ∀ k, k ≠ 8 → a k = b k) {c h : Nat} (hc : c < 5) (hh : h < 6) (v : Nat) (f : Nat → Int32) : nmC a c v (nmH a h f) = nmC b c v (nmH b h f) := by
  unfold nmC nmH
  rw [hA 7 (by omega), hA (14 + 6 * h) (by omega), hA (10 + 6 * h) (by omega), hA (11 + 6 * h) (by omega), hA (13 + 6 * h) (by omega), hA (49 + 5 * c) (by omega), hA (50 + 5 * c) (by omega), hA (46 + 5 * c) (by omega)]
theorem sim_easing {cs : CS} {ms : MS} {ms0 : MS} (R : Rel0 cs ms0) (hT : ms_texts ms = ms_texts ms0) (hA : ∀ k, k ≠ 8 → ms_a ms k = ms_a ms0 k) {c v h : Nat} (hc : c < 5) (hv : v < 5) (hh : h < 6) (ep : ms_a ms0 (47 + 5 * c) = nI h) : ∃ (r : Int32) (cs' : CS) (ms' : MS), (0 ≤ r ∧ r ≤ 99) ∧ sC cs cs' ∧ sM ms ms' ∧ rt (wC_X3_easing (nI c) (nI v) cs) r cs' ∧ rt (wM_easesOf (nI c) (nI v) ms) r ms' := by
  have eru : cx_c_ruling cs = ms_a ms0 3 := rd_ruling R.1
  have etc : cx_c_textCount cs = ms_a ms0 2 := rd_textCount R.1
  have hw : 0 ≤ ms_a ms0 (49 + 5 * c) + nI v ∧ ms_a ms0 (49 + 5 * c) + nI v ≤ 99 := by
    have q := bd_skills R.1 hc
    obtain ⟨z, hz, ez⟩ := p_rng2 (n := 9) (by decide) q.1 q.2
    rw [ez, nI_add]
    exact ⟨nI_pos' (by omega), nI_le (b := 99) (by omega) (by decide)⟩
  obtain ⟨ms1, em1⟩ : ∃ z, z = ms_set_named ms (nmC (ms_a ms0) c v (nmH (ms_a ms0) h (ms_named ms))) := ⟨_, rfl⟩
  have sm1 : sM ms ms1 := by
    rw [em1]
    exact k_sM _ _
  have hF : ∀ post : Int32 → MS → Prop, wM_says (ms_a ms0 3) 0 (ms_a ms0 (49 + 5 * c) + nI v) 99 ms1 post → wM_easesOf (nI c) (nI v) ms post := by
    intro post hp
    unfold wM_easesOf
    refine m_nameFall hc hh v ((hA _ (by omega)).trans ep) _ ?_
    rw [nm_AB hA hc hh v, ← em1]
    have e2 : ms_a ms1 = ms_a ms := sm1.1
    have e3 : ms_named ms1 = nmC (ms_a ms0) c v (nmH (ms_a ms0) h (ms_named ms)) := by
      rw [em1, k_t2]
    rw [e2, e3, hA 3 (by omega)]
    exact hp
  rcases ruling_cases R.1 with hru | ⟨t, ht, et, htc⟩
  · refine ⟨ms_a ms0 (49 + 5 * c) + nI v, cs, ms1, hw, sC_refl _, sm1, ?_, ?_⟩
    · intro post hp
      unfold wC_X3_easing
      rw [eru]
      refine q_textNone hru cs _ ⟨fun _ => ?_, fun _ h => (by cases h)⟩
      unfold wC_X3_easing_27
      rw [p_at (by decide) _ hc, rd_skills R.1 hc]
      exact hp
    · intro post hp
      refine hF post (m_says_neg hru _ _ _ _ _ ?_)
      rw [hd_id hw.1 hw.2]
      exact hp
  · obtain ⟨ad, ead, ⟨B, hm⟩, hl⟩ := law_at R ht htc (s := 0) (by decide)
    rcases hl with ⟨hl1, hl2⟩ | ⟨hl1, hl2⟩
    · refine ⟨ms_a ms0 (49 + 5 * c) + nI v, cs, ms1, hw, sC_refl _, sm1, ?_, ?_⟩
      · intro post hp
        unfold wC_X3_easing
        rw [eru, et]
        refine q_textAt ht (by rw [etc]; exact htc) _ ?_
        rw [ead]
        refine ⟨fun h => (by cases h), fun a3 h => ?_⟩
        cases h
        refine ⟨B, hm, hl1 cs _ rfl (p_yes rfl ?_)⟩
        unfold wC_X3_easing_27
        rw [p_at (by decide) _ hc, rd_skills R.1 hc]
        exact hp
      · intro post hp
        refine hF post ?_
        rw [et]
        refine hl2 ms1 _ _ _ (sm1.2.2.1.trans hT) ?_
        rw [hd_id hw.1 hw.2]
        exact hp
    · obtain ⟨cs1, ecs1⟩ : ∃ z, z = cx_set_l_named cs (nmC (ms_a ms0) c v (nmH (ms_a ms0) h (cx_l_named cs))) := ⟨_, rfl⟩
      have sc1 : sC cs cs1 := by
        rw [ecs1]
        exact n_sC _ _
      have hN : NM 0 cs1 ms1 := by
        intro k hk
        have hk11 : k < 11 := by
          unfold nmOk at hk
          rw [if_neg (by decide)] at hk
          exact of_decide_eq_true hk
        rw [ecs1, em1, n_t5, k_t2]
        have q := nm_fall R.1 hc hh hv (cx_l_named cs) (ms_named ms) k hk11
        exact ⟨by omega, q.1, q.2⟩
      obtain ⟨r0, cs2, ms2, hb, s1, s2, hC, hM⟩ := hl2 cs1 ms1 sc1 (sm1.2.2.1.trans hT) (by rw [sm1.1]; exact hA) hN
      refine ⟨hd r0 99, cs2, ms2, hd_bd (by decide), sC_trans sc1 s1, sM_trans sm1 s2, ?_, ?_⟩
      · intro post hp
        unfold wC_X3_easing
        rw [eru, et]
        refine q_textAt ht (by rw [etc]; exact htc) _ ?_
        rw [ead]
        refine ⟨fun h => (by cases h), fun a3 h => ?_⟩
        cases h
        refine ⟨B, hm, hl1 cs _ rfl (p_no (by decide) ?_)⟩
        rw [q_see_place hc, rd_place R.1 hc, ep]
        refine q_nameHouse R.1 hh _ (q_nameClown (by rw [(n_sC _ _).1]; exact R.1) hc v _ ?_)
        rw [n_t5, n_t6, ← ecs1]
        refine hC _ ?_
        rw [q_held, hld_hd (by decide)]
        exact hp
      · intro post hp
        refine hF post ?_
        rw [et]
        exact hM _ _ _ hp
theorem sim_laughing {cs : CS} {ms : MS} {ms0 : MS} (R : Rel0 cs ms0) (hT : ms_texts ms = ms_texts ms0) (hA : ∀ k, k ≠ 8 → ms_a ms k = ms_a ms0 k) {c v h : Nat} (hc : c < 5) (hv : v < 5) (hh : h < 6) (ep : ms_a ms0 (47 + 5 * c) = nI h) : ∃ (r : Int32) (cs' : CS) (ms' : MS), (0 ≤ r ∧ r ≤ 10) ∧ sC cs cs' ∧ sM ms ms' ∧ rt (wC_X3_laughing (nI c) (nI v) cs) r cs' ∧ rt (wM_laughsOf (nI c) (nI v) ms) r ms' := by
  have eru : cx_c_ruling cs = ms_a ms0 3 := rd_ruling R.1
  have etc : cx_c_textCount cs = ms_a ms0 2 := rd_textCount R.1
  have hw : 0 ≤ ms_a ms0 (11 + 6 * h) ∧ ms_a ms0 (11 + 6 * h) ≤ 10 := by
    have q := bd_mood R.1 hh
    exact ⟨q.1, Int32.le_trans q.2 (by decide)⟩
  obtain ⟨ms1, em1⟩ : ∃ z, z = ms_set_named ms (nmC (ms_a ms0) c v (nmH (ms_a ms0) h (ms_named ms))) := ⟨_, rfl⟩
  have sm1 : sM ms ms1 := by
    rw [em1]
    exact k_sM _ _
  have hF : ∀ post : Int32 → MS → Prop, wM_says (ms_a ms0 3) 1 (ms_a ms0 (11 + 6 * h)) 10 ms1 post → wM_laughsOf (nI c) (nI v) ms post := by
    intro post hp
    unfold wM_laughsOf
    refine m_nameFall hc hh v ((hA _ (by omega)).trans ep) _ ?_
    rw [nm_AB hA hc hh v, ← em1]
    have e2 : ms_a ms1 = ms_a ms := sm1.1
    have e3 : ms_named ms1 = nmC (ms_a ms0) c v (nmH (ms_a ms0) h (ms_named ms)) := by
      rw [em1, k_t2]
    rw [e2, e3, hA 3 (by omega)]
    exact hp
  rcases ruling_cases R.1 with hru | ⟨t, ht, et, htc⟩
  · refine ⟨ms_a ms0 (11 + 6 * h), cs, ms1, hw, sC_refl _, sm1, ?_, ?_⟩
    · intro post hp
      unfold wC_X3_laughing
      rw [q_see_place hc, rd_place R.1 hc, ep, eru]
      refine q_textNone hru cs _ ⟨fun _ => ?_, fun _ h => (by cases h)⟩
      rw [q_see_mood hh, rd_mood R.1 hh]
      exact hp
    · intro post hp
      refine hF post (m_says_neg hru _ _ _ _ _ ?_)
      rw [hd_id hw.1 hw.2]
      exact hp
  · obtain ⟨ad, ead, ⟨B, hm⟩, hl⟩ := law_at R ht htc (s := 1) (by decide)
    rcases hl with ⟨hl1, hl2⟩ | ⟨hl1, hl2⟩
    · refine ⟨ms_a ms0 (11 + 6 * h), cs, ms1, hw, sC_refl _, sm1, ?_, ?_⟩
      · intro post hp
        unfold wC_X3_laughing
        rw [q_see_place hc, rd_place R.1 hc, ep, eru, et]
        refine q_textAt ht (by rw [etc]; exact htc) _ ?_
        rw [ead]
        refine ⟨fun h => (by cases h), fun a3 h => ?_⟩
        cases h
        refine ⟨B, hm, hl1 cs _ rfl (p_yes rfl ?_)⟩
        rw [q_see_mood hh, rd_mood R.1 hh]
        exact hp
      · intro post hp
        refine hF post ?_
        rw [et]
        refine hl2 ms1 _ _ _ (sm1.2.2.1.trans hT) ?_
        rw [hd_id hw.1 hw.2]
        exact hp
    · obtain ⟨cs1, ecs1⟩ : ∃ z, z = cx_set_l_named cs (nmC (ms_a ms0) c v (nmH (ms_a ms0) h (cx_l_named cs))) := ⟨_, rfl⟩
      have sc1 : sC cs cs1 := by
        rw [ecs1]
        exact n_sC _ _
      have hN : NM 1 cs1 ms1 := by
        intro k hk
        have hk11 : k < 11 := by
          unfold nmOk at hk
          rw [if_neg (by decide)] at hk
          exact of_decide_eq_true hk
        rw [ecs1, em1, n_t5, k_t2]
        have q := nm_fall R.1 hc hh hv (cx_l_named cs) (ms_named ms) k hk11
        exact ⟨by omega, q.1, q.2⟩
      obtain ⟨r0, cs2, ms2, hb, s1, s2, hC, hM⟩ := hl2 cs1 ms1 sc1 (sm1.2.2.1.trans hT) (by rw [sm1.1]; exact hA) hN
      refine ⟨hd r0 10, cs2, ms2, hd_bd (by decide), sC_trans sc1 s1, sM_trans sm1 s2, ?_, ?_⟩
      · intro post hp
        unfold wC_X3_laughing
        rw [q_see_place hc, rd_place R.1 hc, ep, eru, et]
        refine q_textAt ht (by rw [etc]; exact htc) _ ?_
        rw [ead]
        refine ⟨fun h => (by cases h), fun a3 h => ?_⟩
        cases h
        refine ⟨B, hm, hl1 cs _ rfl (p_no (by decide) ?_)⟩
        refine q_nameHouse R.1 hh _ (q_nameClown (by rw [(n_sC _ _).1]; exact R.1) hc v _ ?_)
        rw [n_t5, n_t6, ← ecs1]
        refine hC _ ?_
        rw [q_held, hld_hd (by decide)]
        exact hp
      · intro post hp
        refine hF post ?_
        rw [et]
        exact hM _ _ _ hp
