/-! PURE LAYER: the reference's loop over a law -/
def Lp (post : Int32 → MS → Prop) (m : MS) : Prop := ∃ n, wM_summed_15 post n m
def E1 (post : Int32 → MS → Prop) (m : MS) : Prop := ∃ n, wM_endOne m (fun r S => wM_summed_33 post (wM_summed_15 post n) r S)
theorem sm_0 (post : Int32 → MS → Prop) (K : MS → Prop) (m : MS) (h : K m) : wM_summed_33 post K 0 m := p_yes (by decide) (p_yes rfl h)
theorem sm_f (post : Int32 → MS → Prop) (K : MS → Prop) (m : MS) {f : Nat} (h0 : 0 < f) (h9 : f < 9) (h : post (nI f) m) : wM_summed_33 post K (nI f) m := p_no (nI_nle h0 (by omega)) h
theorem Lp_begin {M : MS} {b : Nat → Nat} {t : Nat} {tx0 : Nat → Int32} {ct s e nr : Nat} {C : List (Nat × Nat)} {st : List Nat} {om : Nat} {m : MS} (h : CM M b t tx0 ct s e nr C st om 0 m) (post : Int32 → MS → Prop) {m' : MS} (hb : rt (wM_beginOne m) 0 m') (hl : Lp post m') : Lp post m := by
  obtain ⟨tk, wd, F, e1, e2, e3, e4, _⟩ := CM_tok h
  obtain ⟨n, hn⟩ := hl
  refine ⟨n + 1, ?_⟩
  rw [wM_summed_15, e4]
  exact p_yes rfl (hb _ (sm_0 _ _ _ hn))
theorem Lp_beginF {M : MS} {b : Nat → Nat} {t : Nat} {tx0 : Nat → Int32} {ct s e nr : Nat} {C : List (Nat × Nat)} {st : List Nat} {om : Nat} {m : MS} (h : CM M b t tx0 ct s e nr C st om 0 m) (post : Int32 → MS → Prop) {m' : MS} {f : Nat} (h0 : 0 < f) (h9 : f < 9) (hb : rt (wM_beginOne m) (nI f) m') (hp : post (nI f) m') : Lp post m := by
  obtain ⟨tk, wd, F, e1, e2, e3, e4, _⟩ := CM_tok h
  refine ⟨1, ?_⟩
  rw [wM_summed_15, e4]
  exact p_yes rfl (hb _ (sm_f _ _ _ h0 h9 hp))
theorem Lp_beginE {M : MS} {b : Nat → Nat} {t : Nat} {tx0 : Nat → Int32} {ct s e nr : Nat} {C : List (Nat × Nat)} {st : List Nat} {om : Nat} {m : MS} (h : CM M b t tx0 ct s e nr C st om 0 m) (post : Int32 → MS → Prop) {m' : MS} (hb : ∀ post2, wM_endOne m' post2 → wM_beginOne m post2) (hl : E1 post m') : Lp post m := by
  obtain ⟨tk, wd, F, e1, e2, e3, e4, _⟩ := CM_tok h
  obtain ⟨n, hn⟩ := hl
  refine ⟨n + 1, ?_⟩
  rw [wM_summed_15, e4]
  exact p_yes rfl (hb _ hn)
theorem Lp_behind {M : MS} {b : Nat → Nat} {t : Nat} {tx0 : Nat → Int32} {ct s e nr : Nat} {C : List (Nat × Nat)} {st : List Nat} {om : Nat} {m : MS} (h : CM M b t tx0 ct s e nr C st om 1 m) (post : Int32 → MS → Prop) {m' : MS} (hb : rt (wM_behindOne m) 0 m') (hl : Lp post m') : Lp post m := by
  obtain ⟨tk, wd, F, e1, e2, e3, e4, _⟩ := CM_tok h
  obtain ⟨n, hn⟩ := hl
  refine ⟨n + 1, ?_⟩
  rw [wM_summed_15, e4]
  exact p_no (by decide) (hb _ (sm_0 _ _ _ hn))
theorem Lp_behindE {M : MS} {b : Nat → Nat} {t : Nat} {tx0 : Nat → Int32} {ct s e nr : Nat} {C : List (Nat × Nat)} {st : List Nat} {om : Nat} {m : MS} (h : CM M b t tx0 ct s e nr C st om 1 m) (post : Int32 → MS → Prop) {m' : MS} (hb : ∀ post2, wM_endOne m' post2 → wM_behindOne m post2) (hl : E1 post m') : Lp post m := by
  obtain ⟨tk, wd, F, e1, e2, e3, e4, _⟩ := CM_tok h
  obtain ⟨n, hn⟩ := hl
  refine ⟨n + 1, ?_⟩
  rw [wM_summed_15, e4]
  exact p_no (by decide) (hb _ hn)
/-- nothing goes on here, and something is open -/
theorem Lp_stuck {M : MS} {b : Nat → Nat} {t : Nat} {tx0 : Nat → Int32} {ct s e nr : Nat} {C : List (Nat × Nat)} {st : List Nat} {om : Nat} {m : MS} (h : CM M b t tx0 ct s e nr C st om 1 m) (hl : st.length ≤ 160) (ho : 0 ≤ opV st) (post : Int32 → MS → Prop) (hb : rt (wM_behindOne m) (-1) m) (hp : post 1 m) : Lp post m := by
  obtain ⟨tk, wd, F, e1, e2, e3, e4, _⟩ := CM_tok h
  refine ⟨1, ?_⟩
  rw [wM_summed_15, e4]
  refine p_no (by decide) (hb _ (p_yes (by decide) (p_no (by decide) (m_openNow h hl _ (p_no ?_ hp)))))
  exact Int32.not_lt.mpr ho
/-- .. and nothing is open: it ends -/
theorem Lp_done {S : CS} {n s0 : Nat} {M : MS} {b : Nat → Nat} {t : Nat} {tx0 : Nat → Int32} {ct s e nr : Nat} {C : List (Nat × Nat)} {st : List Nat} {om : Nat} {m : MS} (H : HX S M n b t s0) (h : CM M b t tx0 ct s e nr C st om 1 m) (hl : st.length ≤ 160) (ho : opV st = -1) (hA : ∀ x, x ∈ st → 1 ≤ rkN x) (hC : C.length + st.length ≤ 304) (hc : cntO st ≤ om) (hom : om < 100) (hb : rt (wM_behindOne m) (-1) m) : ∃ m', CM M b t tx0 ct s e nr (C ++ opsL st) [] (om - cntO st) 1 m' ∧ ∀ post : Int32 → MS → Prop, post 0 m' → Lp post m := by
  obtain ⟨tk, wd, F, e1, e2, e3, e4, _⟩ := CM_tok h
  have h' : CM M b t tx0 ct s e nr C (st ++ []) om 1 m := by
    rw [List.append_nil]
    exact h
  obtain ⟨m', g1, g2⟩ := CM_settle H h' (r := 1) (by decide) trivial (by rw [List.append_nil]; exact hl) hA hC hc hom
  refine ⟨m', g1, ?_⟩
  intro post hp
  refine ⟨1, ?_⟩
  rw [wM_summed_15, e4]
  refine p_no (by decide) (hb _ (p_yes (by decide) (p_no (by decide) (m_openNow h hl _ ?_))))
  rw [ho]
  exact p_yes (by decide) (g2 _ hp)
/-! behind a whole one -/
def goH : List Nat → Prop
  | [] => True
  | x :: _ => rkN x < 7 ∧ x ≠ 41 ∧ x ≠ 42
theorem E1_go {S : CS} {n s0 : Nat} {M : MS} {b : Nat → Nat} {t : Nat} {tx0 : Nat → Int32} {ct s e nr : Nat} {C : List (Nat × Nat)} {st : List Nat} {om : Nat} {iw : Int32} {m : MS} (H : HX S M n b t s0) (h : CM M b t tx0 ct s e nr C st om iw m) (hl : st.length ≤ 160) (hg : goH st) (hC : C.length ≤ 304) (hom : om < 100) : ∃ m', CM M b t tx0 ct s e nr C st om 1 m' ∧ ∀ post, Lp post m' → E1 post m := by
  have lo : lowH 7 st := by
    cases st with
    | nil => trivial
    | cons x l => exact hg.1
  obtain ⟨m1, g1, g2⟩ := CM_settle H (A := []) (B := st) h (r := 7) (by decide) lo hl (fun x hx => by cases hx) (by show C.length + 0 ≤ 304; omega) (Nat.zero_le _) hom
  have g1' : CM M b t tx0 ct s e nr C st om iw m1 := by
    have q := g1
    rw [show C ++ opsL [] = C from List.append_nil C] at q
    exact q
  have h1 := CM_iw g1' 1
  refine ⟨_, h1, ?_⟩
  rintro post ⟨n, hn⟩
  refine ⟨n, ?_⟩
  obtain ⟨tk, wd, F, e1, e2, e3, e4, e5, e6, e7, e8, e9, e10⟩ := CM_tok h1
  unfold wM_endOne
  refine g2 _ ?_
  rw [p_all, e5]
  cases st with
  | nil =>
    refine p_yes rfl ?_
    unfold wM_endOne_33
    exact p_no (by decide) (p_no (by decide) (sm_0 _ _ _ hn))
  | cons x l =>
    have hl' : l.length + 1 ≤ 160 := hl
    have hx := e10.2.1
    rw [show (x :: l).length = l.length + 1 from rfl, nI_pred, nI_clamp (by omega), e10.1]
    refine p_no (nI_ne0 (by omega) (by omega)) ⟨vp_in_nI (by omega) (by decide), ?_⟩
    unfold wM_endOne_33
    refine p_no (fun z => hg.2.1 ((nI_eq (b := 41) (by omega) (by decide)).mp z)) (p_no (fun z => hg.2.2 ((nI_eq (b := 42) (by omega) (by decide)).mp z)) (sm_0 _ _ _ hn))
theorem endOne_s {m m' : MS} (h : ∀ post : MS → Prop, wM_settle 7 m' post → wM_settle 7 m post) (P : Int32 → MS → Prop) (hp : wM_endOne m' P) : wM_endOne m P := h _ hp
theorem E1_s {m m' : MS} (h : ∀ post : MS → Prop, wM_settle 7 m' post → wM_settle 7 m post) (post : Int32 → MS → Prop) (hp : E1 post m') : E1 post m := by
  obtain ⟨N, hN⟩ := hp
  exact ⟨N, endOne_s h _ hN⟩
theorem E1_pop {S : CS} {n s0 : Nat} {M : MS} {b : Nat → Nat} {t : Nat} {tx0 : Nat → Int32} {ct s e nr : Nat} {C : List (Nat × Nat)} {st : List Nat} {om : Nat} {iw : Int32} {m : MS} (H : HX S M n b t s0) {x : Nat} (h : CM M b t tx0 ct s e nr C (x :: st) (om + 1) iw m) (hl : st.length < 160) (hx : rkN x = 7) (hC : C.length ≤ 303) (hom : om < 99) : ∃ m', CM M b t tx0 ct s e nr (C ++ [(x, 0)]) st om iw m' ∧ ∀ post, E1 post m' → E1 post m := by
  obtain ⟨tk, nu, wd, tx, pi, e1, e2, e3, e4, e5, e6⟩ := h
  have e5' : pi st.length = nI x ∧ x < 50 ∧ PR st pi := e5
  have e6' : ∀ k, k < 705 * t + 97 → upd (upd tx (705 * t + 97 + 2 * C.length) (nI x)) (705 * t + 98 + 2 * C.length) (nI 0) k = tx0 k := by
    intro k hk
    rw [upd_ne _ _ (by omega), upd_ne _ _ (by omega)]
    exact e6 k hk
  have c2 := CodeM_add e4 x 0
  have hl1 : nI (C ++ [(x, 0)]).length = nI (C.length + 1) := by
    rw [List.length_append]
    rfl
  refine ⟨mA M (nI e) (nI s) tk nu wd (upd (upd tx (705 * t + 97 + 2 * C.length) (nI x)) (705 * t + 98 + 2 * C.length) (nI 0)) (nI (C.length + 1)) pi (nI st.length) (nI om) iw, ⟨tk, nu, wd, upd (upd tx (705 * t + 97 + 2 * C.length) (nI x)) (705 * t + 98 + 2 * C.length) (nI 0), pi, by rw [hl1], e2, e3, c2, e5'.2.2, e6'⟩, ?_⟩
  refine E1_s ?_
  intro post hN
  rw [e1]
  exact m_settle1 H (r := 7) (om := om) (nI e) (nI s) tk nu wd tx pi iw e5 hl (by rw [hx]; exact Nat.le_refl 7) hx hC (nI 0) rfl _ hN
theorem E1_hold {S : CS} {n s0 : Nat} {M : MS} {b : Nat → Nat} {t : Nat} {tx0 : Nat → Int32} {ct s e nr : Nat} {C : List (Nat × Nat)} {st : List Nat} {om : Nat} {iw : Int32} {m : MS} (H : HX S M n b t s0) {x y i : Nat} (hx : (x = 41 ∧ y = 42 ∧ i = 21) ∨ (x = 42 ∧ y = 4 ∧ i = 19)) (h : CM M b t tx0 ct s e nr C (x :: st) om iw m) (hl : st.length < 160) (hC : C.length ≤ 304) (hom : om < 100) : ∃ m1, CM M b t tx0 ct s e nr C (x :: st) om 1 m1 ∧ (¬ ct = i → ∀ post : Int32 → MS → Prop, post 1 m1 → E1 post m) ∧ (ct = i → ∀ (m2 : MS) (tok : Nat × Nat × Nat × Nat), rv (wM_nextToken m1) m2 → CM M b t tx0 tok.1 tok.2.1 tok.2.2.1 tok.2.2.2 C (x :: st) om 1 m2 → ∃ m3, CM M b t tx0 tok.1 tok.2.1 tok.2.2.1 tok.2.2.2 C (y :: st) om 0 m3 ∧ ∀ post, Lp post m3 → E1 post m) := by
  have hx50 : x < 50 ∧ y < 50 ∧ rkN x = 0 := by
    rcases hx with ⟨q1, q2, q3⟩ | ⟨q1, q2, q3⟩
    · rw [q1, q2]
      decide
    · rw [q1, q2]
      decide
  obtain ⟨m0, g1, g2⟩ := CM_settle H (A := []) (B := x :: st) h (r := 7) (by decide) (show rkN x < 7 by omega) (by show st.length + 1 ≤ 160; omega) (fun x hx => by cases hx) (by show C.length + 0 ≤ 304; omega) (Nat.zero_le _) hom
  have g1' : CM M b t tx0 ct s e nr C (x :: st) om iw m0 := by
    have q := g1
    rw [show C ++ opsL [] = C from List.append_nil C] at q
    exact q
  have h1 := CM_iw g1' 1
  obtain ⟨tk, wd, F, e1, e2, e3, e4, e5, e6, e7, e8, e9, e10⟩ := CM_tok h1
  have start : ∀ post2 : Int32 → MS → Prop, wM_isWord (wK i) (ms_set_isWhole m0 1) (fun r_1 S_2 => ((r_1 = 0 → post2 1 S_2) ∧ (¬ (r_1 = 0) → wM_nextToken S_2 (fun S_5 => ((nI x = 41 → (vp_in ((ms_piled S_5) - 1) 160 ∧ ∀ S_10 : MS, S_10 = (ms_set_pile S_5 (upd (ms_pile S_5) (((ms_piled S_5) - 1).toNatClampNeg) 42)) → (∀ S_11 : MS, S_11 = (ms_set_isWhole S_10 0) → post2 0 S_11))) ∧ (¬ (nI x = 41) → (vp_in ((ms_piled S_5) - 1) 160 ∧ ∀ S_7 : MS, S_7 = (ms_set_pile S_5 (upd (ms_pile S_5) (((ms_piled S_5) - 1).toNatClampNeg) 4)) → (∀ S_8 : MS, S_8 = (ms_set_isWhole S_7 0) → post2 0 S_8))))))) ) → wM_endOne m post2 := by
    intro post2 hh
    unfold wM_endOne
    refine g2 _ ?_
    rw [p_all, e5, show (x :: st).length = st.length + 1 from rfl, nI_pred, nI_clamp (by omega), e10.1]
    refine p_no (nI_ne0 (by omega) (by omega)) ⟨vp_in_nI (by omega) (by decide), ?_⟩
    unfold wM_endOne_33 wM_endOne_48
    rcases hx with ⟨q1, q2, q3⟩ | ⟨q1, q2, q3⟩
    · rw [q1] at hh ⊢
      refine p_yes rfl (p_yes rfl ?_)
      rw [wv_21]
      rw [q3] at hh
      exact hh
    · rw [q1] at hh ⊢
      refine p_no (by decide) (p_yes rfl (p_no (by decide) ?_))
      rw [wv_19]
      rw [q3] at hh
      exact hh
  have hi : i < 30 ∧ i ≠ 4 := by
    rcases hx with ⟨q1, q2, q3⟩ | ⟨q1, q2, q3⟩ <;> omega
  refine ⟨_, h1, ?_, ?_⟩
  · intro nc post hp
    refine ⟨0, start _ ?_⟩
    rw [m_word h1 hi.1 hi.2, if_neg nc]
    exact p_yes rfl (sm_f (f := 1) _ _ _ (by decide) (by decide) hp)
  · intro ec m2 tok hn h2
    obtain ⟨q1, q2, q3⟩ := CM_top h2 (y := y) hx50.2.1
    have h3 := CM_iw q1 0
    refine ⟨_, h3, ?_⟩
    rintro post ⟨N, hN⟩
    refine ⟨N, start _ ?_⟩
    rw [m_word h1 hi.1 hi.2, if_pos ec]
    refine p_no (by decide) (hn _ ?_)
    rw [q3, nI_pred, nI_clamp (by omega)]
    simp only [p_all]
    rcases hx with ⟨r1, r2, r3⟩ | ⟨r1, r2, r3⟩
    · rw [r1]
      rw [r2] at hN
      exact p_yes rfl ⟨vp_in_nI (by omega) (by decide), sm_0 _ _ _ hN⟩
    · rw [r1]
      rw [r2] at hN
      exact p_no (by decide) ⟨vp_in_nI (by omega) (by decide), sm_0 _ _ _ hN⟩
/-! beginning one -/
theorem m_beginOne {S : CS} {n s0 : Nat} {M : MS} {b : Nat → Nat} {t : Nat} {tx0 : Nat → Int32} {ct s e nr : Nat} {C : List (Nat × Nat)} {st : List Nat} {om : Nat} {iw : Int32} {m : MS} (H : HX S M n b t s0) (h : CM M b t tx0 ct s e nr C st om iw m) {nc : Nat} (hT : TN n ct s e nc nr) (hl : st.length ≤ 160) (post : Int32 → MS → Prop) (hp : if ct = 32 then (if nr ≤ 9999 then wM_beginOne_81 post 0 (nI nr) m else post 2 m) else if ct < 12 then (if nmOk s0 ct = true then wM_beginOne_81 post 1 (nI ct) m else post 5 m) else if ct = 43 then wM_opened (nI 40) m post else if ct = 40 then wM_opened (nI 5) m post else if ct = 20 then wM_opened (nI 41) m post else if ct = 22 then wM_opened (nI 2) m post else if ct = 23 then wM_opened (nI 43) m post else if ct = 29 ∧ askA st = true then wM_opened (nI 20) m post else post 1 m) : wM_beginOne m post := by
  obtain ⟨tk, wd, F, e1, e2, e3, e4, e5, e6, e7, e8, e9, e10⟩ := CM_tok h
  have t1 := m_tn h
  have s43 : (ms_token m = 40) = (ct = 43) := m_sg h (c := 43) (by decide) (by decide)
  have s40 : (ms_token m = 45) = (ct = 40) := m_sg h (c := 40) (by decide) (by decide)
  unfold wM_beginOne
  rw [t1]
  by_cases c32 : ct = 32
  · rw [if_pos c32] at hp
    refine p_yes c32 ?_
    rw [e3 c32]
    have hnr := (hT.2.2.2.1 c32).1
    have le : (nI nr ≤ 9999) = (nr ≤ 9999) := propext (nI_leI (b := 9999) (by omega) (by decide))
    rw [le]
    refine p_two (fun q => ?_) (fun q => ?_)
    · rw [if_pos q] at hp
      unfold wM_beginOne_20
      refine m_nameOf H h hT _ ?_
      rw [if_neg (by omega)]
      refine p_yes (by decide) ?_
      unfold wM_beginOne_39 wM_beginOne_51
      rw [t1, e3 c32]
      exact p_yes c32 (p_yes c32 (p_yes c32 hp))
    · rw [if_neg q] at hp
      exact hp
  · rw [if_neg c32] at hp
    refine p_no c32 ?_
    unfold wM_beginOne_20
    refine m_nameOf H h hT _ ?_
    by_cases c12 : ct < 12
    · rw [if_pos c12] at hp
      rw [if_pos c12]
      refine p_no (nI_pos (by omega)) ?_
      have hs0 := H.2.2.1
      have s2 : (ms_sort0 m = 2) = (s0 = 2) := by
        rw [e7, H.2.2.2.2.1]
        exact propext (nI_eq (b := 2) (by omega) (by decide))
      have l6 : (nI ct < 6) = (ct < 6) := propext (nI_ltI (b := 6) (by omega) (by decide))
      have l11 : ((11 : Int32) ≤ nI ct) = (11 ≤ ct) := propext (nI_leI (a := 11) (by decide) (by omega))
      have good : nmOk s0 ct = true → wM_beginOne_39 post (nI ct) m := by
        intro z
        rw [if_pos z] at hp
        unfold wM_beginOne_39 wM_beginOne_51
        rw [t1]
        exact p_no c32 (p_no (nI_pos (by omega)) (p_no c32 (p_no c32 hp)))
      have bad : nmOk s0 ct = false → post 5 m := by
        intro z
        rw [z] at hp
        exact hp
      unfold wM_isOf
      rw [s2, l6, l11]
      have ok1 : ∀ z, nmOk s0 ct = true → z = (1 : Int32) → ((z = 0 → post 5 m) ∧ (¬ z = 0 → wM_beginOne_39 post (nI ct) m)) := by
        intro z z1 z2
        rw [z2]
        exact p_no (by decide) (good z1)
      have ok0 : ∀ z, nmOk s0 ct = false → z = (0 : Int32) → ((z = 0 → post 5 m) ∧ (¬ z = 0 → wM_beginOne_39 post (nI ct) m)) := by
        intro z z1 z2
        rw [z2]
        exact p_yes rfl (bad z1)
      have t1' : ∀ a, a < 3 → ∀ c, c < 12 → c < 6 → nmOk a c = true := by decide +kernel
      have t2' : ∀ a, a < 3 → ∀ c, c < 12 → 11 ≤ c → a = 2 → nmOk a c = true := by decide +kernel
      have t3' : ∀ a, a < 3 → ∀ c, c < 12 → 11 ≤ c → ¬ a = 2 → nmOk a c = false := by decide +kernel
      have t4' : ∀ a, a < 3 → ∀ c, c < 12 → 6 ≤ c → c ≤ 10 → a = 2 → nmOk a c = false := by decide +kernel
      have t5' : ∀ a, a < 2 → ∀ c, c < 12 → 6 ≤ c → c ≤ 10 → nmOk a c = true := by decide +kernel
      have k1 := t1' s0 hs0 ct c12
      have k2 := t2' s0 hs0 ct c12
      have k3 := t3' s0 hs0 ct c12
      have k4 : ¬ ct < 6 → ¬ 11 ≤ ct → s0 = 2 → nmOk s0 ct = false := fun z1 z2 => t4' s0 hs0 ct c12 (by omega) (by omega)
      have k5 : ¬ ct < 6 → ¬ 11 ≤ ct → ¬ s0 = 2 → nmOk s0 ct = true := fun z1 z2 z3 => t5' s0 (by omega) ct c12 (by omega) (by omega)
      refine p_two (fun q => ok1 1 (k1 q) rfl) (fun q => p_two (fun q2 => p_two (fun q3 => ok1 1 (k2 q2 q3) rfl) (fun q3 => ok0 0 (k3 q2 q3) rfl)) (fun q2 => p_two (fun q3 => ok0 0 (k4 q q2 q3) rfl) (fun q3 => ok1 1 (k5 q q2 q3) rfl)))
    · rw [if_neg c12] at hp
      rw [if_neg c12]
      refine p_yes (by decide) ?_
      unfold wM_beginOne_39
      rw [t1, s43, s40]
      refine p_no c32 (p_yes (by decide) (p_two (fun q => ?_) (fun q => p_two (fun q2 => ?_) (fun q2 => ?_))))
      · rw [if_pos q] at hp
        exact hp
      · rw [if_neg q, if_pos q2] at hp
        exact hp
      · rw [if_neg q, if_neg q2] at hp
        rw [wv_20, m_word h (by decide) (by decide), p_b0]
        by_cases c20 : ct = 20
        · rw [if_pos c20] at hp
          exact p_val c20 hp
        · rw [if_neg c20] at hp
          refine p_yes c20 ?_
          rw [wv_22, m_word h (by decide) (by decide), p_b0]
          by_cases c22 : ct = 22
          · rw [if_pos c22] at hp
            exact p_val c22 hp
          · rw [if_neg c22] at hp
            refine p_yes c22 ?_
            rw [wv_23, m_word h (by decide) (by decide), p_b0]
            by_cases c23 : ct = 23
            · rw [if_pos c23] at hp
              exact p_val c23 hp
            · rw [if_neg c23] at hp
              refine p_yes c23 ?_
              rw [wv_29, m_word h (by decide) (by decide), p_b0]
              by_cases c29 : ct = 29
              · refine p_val c29 (m_isAskAhead h hl _ ?_)
                by_cases a : askA st = true
                · rw [if_pos ⟨c29, a⟩] at hp
                  rw [if_pos a]
                  exact p_no (by decide) hp
                · rw [if_neg (fun z => a z.2)] at hp
                  rw [if_neg a]
                  exact p_yes rfl hp
              · rw [if_neg (fun z => c29 z.1)] at hp
                exact p_yes c29 hp
/-! behind one -/
def cpN (c : Nat) : Nat := [11, 13, 10, 12, 14, 15].getD (c - 33) 0
def btI (ct : Nat) (st : List Nat) : Int32 := if ct = 39 then 6 else if ct = 40 then 7 else if ct = 41 then 8 else if ct = 42 then 9 else if opV st = 43 then (if cmB st = true then (if ct = 28 then 21 else if ct = 27 then 22 else -1) else (if 33 ≤ ct ∧ ct ≤ 38 then nI (cpN ct) else -1)) else -1
theorem m_compareOf {M : MS} {b : Nat → Nat} {t : Nat} {tx0 : Nat → Int32} {ct s e nr : Nat} {C : List (Nat × Nat)} {st : List Nat} {om : Nat} {iw : Int32} {m : MS} (h : CM M b t tx0 ct s e nr C st om iw m) (post : Int32 → MS → Prop) (hp : post (if 33 ≤ ct ∧ ct ≤ 38 then nI (cpN ct) else -1) m) : wM_compareOf m post := by
  have s35 : (ms_token m = 60) = (ct = 35) := m_sg h (c := 35) (by decide) (by decide)
  have s33 : (ms_token m = 4) = (ct = 33) := m_sg h (c := 33) (by decide) (by decide)
  have s36 : (ms_token m = 62) = (ct = 36) := m_sg h (c := 36) (by decide) (by decide)
  have s34 : (ms_token m = 5) = (ct = 34) := m_sg h (c := 34) (by decide) (by decide)
  have s37 : (ms_token m = 61) = (ct = 37) := m_sg h (c := 37) (by decide) (by decide)
  have s38 : (ms_token m = 35) = (ct = 38) := m_sg h (c := 38) (by decide) (by decide)
  unfold wM_compareOf
  rw [s35, s33, s36, s34, s37, s38]
  have k : ∀ i, 33 ≤ i → i ≤ 38 → ct = i → post (nI (cpN i)) m := by
    intro i h1 h2 h3
    rw [if_pos (by omega), h3] at hp
    exact hp
  refine p_two (fun q => k 35 (by decide) (by decide) q) (fun q1 => p_two (fun q => k 33 (by decide) (by decide) q) (fun q2 => p_two (fun q => k 36 (by decide) (by decide) q) (fun q3 => p_two (fun q => k 34 (by decide) (by decide) q) (fun q4 => p_two (fun q => k 37 (by decide) (by decide) q) (fun q5 => p_two (fun q => k 38 (by decide) (by decide) q) (fun q6 => ?_))))))
  rw [if_neg (by omega)] at hp
  exact hp
theorem m_betweenOf {M : MS} {b : Nat → Nat} {t : Nat} {tx0 : Nat → Int32} {ct s e nr : Nat} {C : List (Nat × Nat)} {st : List Nat} {om : Nat} {iw : Int32} {m : MS} (h : CM M b t tx0 ct s e nr C st om iw m) (hl : st.length ≤ 160) (post : Int32 → MS → Prop) (hp : post (btI ct st) m) : wM_betweenOf m post := by
  have s39 : (ms_token m = 43) = (ct = 39) := m_sg h (c := 39) (by decide) (by decide)
  have s40 : (ms_token m = 45) = (ct = 40) := m_sg h (c := 40) (by decide) (by decide)
  have s41 : (ms_token m = 42) = (ct = 41) := m_sg h (c := 41) (by decide) (by decide)
  have s42 : (ms_token m = 47) = (ct = 42) := m_sg h (c := 42) (by decide) (by decide)
  unfold wM_betweenOf
  rw [s39, s40, s41, s42]
  unfold btI at hp
  refine p_two (fun q => ?_) (fun q1 => p_two (fun q => ?_) (fun q2 => p_two (fun q => ?_) (fun q3 => p_two (fun q => ?_) (fun q4 => ?_))))
  · rw [if_pos q] at hp
    exact hp
  · rw [if_neg q1, if_pos q] at hp
    exact hp
  · rw [if_neg q1, if_neg q2, if_pos q] at hp
    exact hp
  · rw [if_neg q1, if_neg q2, if_neg q3, if_pos q] at hp
    exact hp
  · rw [if_neg q1, if_neg q2, if_neg q3, if_neg q4] at hp
    refine m_openNow h hl _ (p_two (fun c => ?_) (fun c => ?_))
    · rw [if_pos c] at hp
      refine m_isCompared h hl _ ?_
      by_cases z : cmB st = true
      · rw [if_pos z] at hp ⊢
        refine p_no (by decide) ?_
        rw [wv_28, m_word h (by decide) (by decide), p_b0]
        by_cases c28 : ct = 28
        · rw [if_pos c28] at hp
          exact p_val c28 hp
        · rw [if_neg c28] at hp
          refine p_yes c28 ?_
          rw [wv_27, m_word h (by decide) (by decide), p_b0]
          by_cases c27 : ct = 27
          · rw [if_pos c27] at hp
            exact p_val c27 hp
          · rw [if_neg c27] at hp
            exact p_yes c27 hp
      · rw [if_neg z] at hp ⊢
        exact p_yes rfl (m_compareOf h _ hp)
    · rw [if_neg c] at hp
      exact hp
def ptI (ct : Nat) (st : List Nat) : Int32 := if opV st = 40 then (if ct = 44 then 0 else -1) else if opV st = 43 then (if ct = 24 ∧ cmB st = true then 44 else -1) else if opV st = 44 then (if ct = 25 then 45 else -1) else if opV st = 45 then (if ct = 26 then 0 else -1) else -1
theorem m_partOf {M : MS} {b : Nat → Nat} {t : Nat} {tx0 : Nat → Int32} {ct s e nr : Nat} {C : List (Nat × Nat)} {st : List Nat} {om : Nat} {iw : Int32} {m : MS} (h : CM M b t tx0 ct s e nr C st om iw m) (hl : st.length ≤ 160) (post : Int32 → MS → Prop) (hp : post (ptI ct st) m) : wM_partOf (opV st) m post := by
  have s44 : (ms_token m = 41) = (ct = 44) := m_sg h (c := 44) (by decide) (by decide)
  unfold wM_partOf
  unfold ptI at hp
  rw [s44]
  refine ⟨fun z => ?_, fun z => ?_, fun z => ?_, fun z => ?_, fun z1 z2 z3 z4 => ?_⟩
  · rw [if_pos z] at hp
    refine p_two (fun q => ?_) (fun q => ?_)
    · rw [if_pos q] at hp
      exact hp
    · rw [if_neg q] at hp
      exact hp
  · rw [if_neg (by rw [z]; decide), if_pos z] at hp
    rw [wv_24, m_word h (by decide) (by decide), p_b0]
    by_cases c : ct = 24
    · refine p_val c (m_isCompared h hl _ ?_)
      by_cases q : cmB st = true
      · rw [if_pos ⟨c, q⟩] at hp
        rw [if_pos q]
        exact p_no (by decide) hp
      · rw [if_neg (fun y => q y.2)] at hp
        rw [if_neg q]
        exact p_yes rfl hp
    · rw [if_neg (fun y => c y.1)] at hp
      exact p_yes c hp
  · rw [if_neg (by rw [z]; decide), if_neg (by rw [z]; decide), if_pos z] at hp
    rw [wv_25, m_word h (by decide) (by decide), p_b0]
    by_cases c : ct = 25
    · rw [if_pos c] at hp
      exact p_val c hp
    · rw [if_neg c] at hp
      exact p_yes c hp
  · rw [if_neg (by rw [z]; decide), if_neg (by rw [z]; decide), if_neg (by rw [z]; decide), if_pos z] at hp
    rw [wv_26, m_word h (by decide) (by decide), p_b0]
    by_cases c : ct = 26
    · rw [if_pos c] at hp
      exact p_val c hp
    · rw [if_neg c] at hp
      exact p_yes c hp
  · rw [if_neg z1, if_neg z2, if_neg z3, if_neg z4] at hp
    exact hp
/-- nothing comes of the token here -/
theorem bh_none {M : MS} {b : Nat → Nat} {t : Nat} {tx0 : Nat → Int32} {ct s e nr : Nat} {C : List (Nat × Nat)} {st : List Nat} {om : Nat} {iw : Int32} {m : MS} (h : CM M b t tx0 ct s e nr C st om iw m) (hl : st.length ≤ 160) (h1 : btI ct st = -1) (h2 : ptI ct st = -1) : rt (wM_behindOne m) (-1) m := by
  intro post hp
  unfold wM_behindOne
  refine m_betweenOf h hl _ ?_
  rw [h1]
  refine p_yes (by decide) (m_openNow h hl _ (m_partOf h hl _ ?_))
  rw [h2]
  exact p_no (by decide) hp
