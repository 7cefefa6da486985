/-! PURE LAYER: the reference's steps as it reads -/
theorem m_emitA {S : CS} {M : MS} {n : Nat} {b : Nat → Nat} {t s0 : Nat} (H : HX S M n b t s0) {wr : Nat} (hw : wr ≤ 303) (k v : Int32) (aa pl tk nu : Int32) (wd : Int64) (tx pi : Nat → Int32) (pd op iw : Int32) (post : MS → Prop) (hp : post (mA M aa pl tk nu wd (upd (upd tx (705 * t + 97 + 2 * wr) k) (705 * t + 98 + 2 * wr) v) (nI (wr + 1)) pi pd op iw)) : wM_emit k v (mA M aa pl tk nu wd tx (nI wr) pi pd op iw) post := by
  have ht := H.2.1
  unfold wM_emit
  simp only [p_all]
  rw [mA_text0, mA_written, H.2.2.2.2.2, mA_texts, mA_s_texts, mA_text0, mA_written, mA_texts, mA_s_texts, mA_written, mA_s_written, H.2.2.2.2.2, nI_1 wr, show nI (705 * t) + 97 = nI (705 * t + 97) from nI_al 97 _, nI_lm 2 wr, nI_add, nI_1, nI_clamp (by omega), nI_clamp (by omega), show 705 * t + 97 + 2 * wr + 1 = 705 * t + 98 + 2 * wr by omega]
  exact ⟨vp_in_nI (by omega) (by decide), vp_in_nI (by omega) (by decide), hp⟩
def cntO : List Nat → Nat
  | [] => 0
  | x :: l => (if rkN x = 7 ∨ x = 20 then 1 else 0) + cntO l
def opsL (A : List Nat) : List (Nat × Nat) := A.map (fun x => (x, 0))
def lowH (r : Nat) : List Nat → Prop
  | [] => True
  | x :: _ => rkN x < r
theorem m_settleX {S : CS} {M : MS} {n : Nat} {b : Nat → Nat} {t s0 : Nat} (H : HX S M n b t s0) {tx0 : Nat → Int32} {r : Nat} (hr : r ≤ 7) (aa pl tk nu : Int32) (wd : Int64) (pi : Nat → Int32) (iw : Int32) (B : List Nat) (hB : lowH r B) : ∀ (A : List Nat) (C : List (Nat × Nat)) (tx : Nat → Int32) (om : Nat), PR (A ++ B) pi → (A ++ B).length ≤ 160 → CodeM t C tx → (∀ k, k < 705 * t + 97 → tx k = tx0 k) → (∀ x, x ∈ A → r ≤ rkN x) → C.length + A.length ≤ 304 → cntO A ≤ om → om < 100 → ∃ tx' : Nat → Int32, CodeM t (C ++ opsL A) tx' ∧ (∀ k, k < 705 * t + 97 → tx' k = tx0 k) ∧ ∀ post : MS → Prop, post (mA M aa pl tk nu wd tx' (nI (C.length + A.length)) pi (nI B.length) (nI (om - cntO A)) iw) → wM_settle (nI r) (mA M aa pl tk nu wd tx (nI C.length) pi (nI (A ++ B).length) (nI om) iw) post := by
  intro A
  induction A with
  | nil =>
    intro C tx om hP hl hC hF hA hb ho hom
    refine ⟨tx, by show CodeM t (C ++ []) tx; rw [List.append_nil]; exact hC, hF, ?_⟩
    intro post hp
    refine ⟨1, ?_⟩
    have hp' : post (mA M aa pl tk nu wd tx (nI C.length) pi (nI B.length) (nI om) iw) := hp
    rw [wM_settle_0, mA_piled, mA_pile]
    cases B with
    | nil => exact p_yes (by decide) hp'
    | cons x l =>
      have hl' : l.length + 1 ≤ 160 := hl
      have hPx : pi l.length = nI x ∧ x < 50 ∧ PR l pi := hP
      have r7 := rk_7 x
      have hB' : rkN x < r := hB
      rw [show ([] ++ x :: l : List Nat).length = l.length + 1 from rfl, nI_pred, nI_clamp (by omega), hPx.1, m_rank hPx.2.1]
      exact p_no (nI_nle (by omega) (by omega)) ⟨vp_in_nI (by omega) (by decide), p_yes (nI_lt hB' (by omega)) hp'⟩
  | cons x A ih =>
    intro C tx om hP hl hC hF hA hb ho hom
    have hl' : (A ++ B).length + 1 ≤ 160 := hl
    have hP' : pi (A ++ B).length = nI x ∧ x < 50 ∧ PR (A ++ B) pi := hP
    have r7 := rk_7 x
    have hx := hA x (List.mem_cons_self)
    have hb' : C.length + (A.length + 1) ≤ 304 := hb
    have ho' : (if rkN x = 7 ∨ x = 20 then 1 else 0) + cntO A ≤ om := ho
    obtain ⟨om', eo⟩ : ∃ om', om' = om - (if rkN x = 7 ∨ x = 20 then 1 else 0) := ⟨_, rfl⟩
    obtain ⟨tx', c1, c2, c3⟩ := ih (C ++ [(x, 0)]) (upd (upd tx (705 * t + 97 + 2 * C.length) (nI x)) (705 * t + 98 + 2 * C.length) 0) om' hP'.2.2 (by omega) (CodeM_add hC x 0) (by
      intro k hk
      rw [upd_ne _ _ (by omega), upd_ne _ _ (by omega)]
      exact hF k hk) (fun y hy => hA y (List.mem_cons_of_mem _ hy)) (by rw [List.length_append]; show C.length + 1 + A.length ≤ 304; omega) (by omega) (by omega)
    refine ⟨tx', by rw [List.append_assoc] at c1; exact c1, c2, ?_⟩
    intro post hp
    have hp' : post (mA M aa pl tk nu wd tx' (nI ((C ++ [(x, 0)]).length + A.length)) pi (nI B.length) (nI (om' - cntO A)) iw) := by
      rw [List.length_append, show C.length + [(x, 0)].length + A.length = C.length + (A.length + 1) from by show C.length + 1 + A.length = _; omega, show om' - cntO A = om - cntO (x :: A) from by show om' - cntO A = om - ((if rkN x = 7 ∨ x = 20 then 1 else 0) + cntO A); omega]
      exact hp
    obtain ⟨N, hN⟩ := c3 post hp'
    rw [List.length_append] at hN
    refine ⟨N + 1, ?_⟩
    rw [wM_settle_0, mA_piled, mA_pile, show (x :: A ++ B).length = (A ++ B).length + 1 from rfl, nI_pred, nI_clamp (by omega), hP'.1, m_rank hP'.2.1]
    refine p_no (nI_nle (by omega) (by omega)) ⟨vp_in_nI (by omega) (by decide), p_no (fun z => ?_) ?_⟩
    · have := (nI_ltI (by omega) (by omega)).mp z
      omega
    · rw [p_all, mA_piled, mA_s_piled, nI_pred, mA_piled, mA_pile, nI_clamp (by omega), hP'.1]
      refine ⟨vp_in_nI (by omega) (by decide), m_emitA H (by omega) _ _ _ _ _ _ _ _ _ _ _ _ _ ⟨?_, ?_⟩⟩
      · rw [mA_piled]
        exact vp_in_nI (by omega) (by decide)
      · rw [mA_piled, mA_pile, nI_clamp (by omega), hP'.1, m_rank hP'.2.1]
        simp only [p_all]
        rw [mA_opens, mA_s_opens, mA_piled, mA_pile, nI_clamp (by omega), hP'.1]
        have e7 : (nI (rkN x) = 7) = (rkN x = 7) := propext (nI_eq (b := 7) (by omega) (by decide))
        have e20 : (nI x = 20) = (x = 20) := propext (nI_eq (b := 20) (by omega) (by decide))
        rw [e7, e20]
        refine p_two (fun q => ?_) (fun q => ⟨vp_in_nI (by omega) (by decide), p_two (fun q2 => ?_) (fun q2 => ?_)⟩)
        · rw [if_pos (Or.inl q)] at eo ho'
          rw [show nI om - 1 = nI om' from by rw [eo]; exact nI_sub (b := 1) (by omega)]
          exact hN
        · rw [if_pos (Or.inr q2)] at eo ho'
          rw [show nI om - 1 = nI om' from by rw [eo]; exact nI_sub (b := 1) (by omega)]
          exact hN
        · rw [if_neg (fun z => by rcases z with z | z; exact q z; exact q2 z)] at eo
          rw [Nat.sub_zero] at eo
          rw [← eo]
          exact hN
theorem m_settle1 {S : CS} {M : MS} {n : Nat} {b : Nat → Nat} {t s0 : Nat} (H : HX S M n b t s0) {r x : Nat} {l : List Nat} {om wr : Nat} (aa pl tk nu : Int32) (wd : Int64) (tx pi : Nat → Int32) (iw : Int32) (hP : PR (x :: l) pi) (hl : l.length < 160) (hr : r ≤ rkN x) (h7 : rkN x = 7) (hw : wr ≤ 303) (v : Int32) (ev : v = 0) (post : MS → Prop) (hp : wM_settle (nI r) (mA M aa pl tk nu wd (upd (upd tx (705 * t + 97 + 2 * wr) (nI x)) (705 * t + 98 + 2 * wr) v) (nI (wr + 1)) pi (nI l.length) (nI om) iw) post) : wM_settle (nI r) (mA M aa pl tk nu wd tx (nI wr) pi (nI (l.length + 1)) (nI (om + 1)) iw) post := by
  have hP' : pi l.length = nI x ∧ x < 50 ∧ PR l pi := hP
  subst ev
  have r7 := rk_7 x
  obtain ⟨N, hN⟩ := hp
  refine ⟨N + 1, ?_⟩
  rw [wM_settle_0, mA_piled, mA_pile, nI_pred, nI_clamp (by omega), hP'.1, m_rank hP'.2.1]
  refine p_no (nI_nle (by omega) (by omega)) ⟨vp_in_nI (by omega) (by decide), p_no (fun z => ?_) ?_⟩
  · have := (nI_ltI (by omega) (by omega)).mp z
    omega
  · rw [p_all, mA_piled, mA_s_piled, nI_pred, mA_piled, mA_pile, nI_clamp (by omega), hP'.1]
    refine ⟨vp_in_nI (by omega) (by decide), m_emitA H (by omega) _ _ _ _ _ _ _ _ _ _ _ _ _ ⟨?_, ?_⟩⟩
    · rw [mA_piled]
      exact vp_in_nI (by omega) (by decide)
    · rw [mA_piled, mA_pile, nI_clamp (by omega), hP'.1, m_rank hP'.2.1]
      simp only [p_all]
      rw [mA_opens, mA_s_opens, nI_pred]
      have e7 : (nI (rkN x) = 7) = (rkN x = 7) := propext (nI_eq (b := 7) (by omega) (by decide))
      rw [e7]
      exact p_yes h7 hN
theorem CM_settle {S : CS} {n s0 : Nat} {M : MS} {b : Nat → Nat} {t : Nat} {tx0 : Nat → Int32} {ct s e nr : Nat} {C : List (Nat × Nat)} {om : Nat} {iw : Int32} {m : MS} (H : HX S M n b t s0) {A B : List Nat} (h : CM M b t tx0 ct s e nr C (A ++ B) om iw m) {r : Nat} (hr : r ≤ 7) (hB : lowH r B) (hl : (A ++ B).length ≤ 160) (hA : ∀ x, x ∈ A → r ≤ rkN x) (hC : C.length + A.length ≤ 304) (ho : cntO A ≤ om) (hom : om < 100) : ∃ m', CM M b t tx0 ct s e nr (C ++ opsL A) B (om - cntO A) iw m' ∧ rv (wM_settle (nI r) m) m' := by
  obtain ⟨tk, nu, wd, tx, pi, e1, e2, e3, e4, e5, e6⟩ := h
  obtain ⟨tx', c1, c2, c3⟩ := m_settleX H (tx0 := tx0) hr (nI e) (nI s) tk nu wd pi iw B hB A C tx om e5 hl e4 e6 hA hC ho hom
  have PRr : ∀ (A B : List Nat), PR (A ++ B) pi → PR B pi := by
    intro A B
    induction A with
    | nil => intro h; exact h
    | cons x A ih => intro h; exact ih h.2.2
  refine ⟨mA M (nI e) (nI s) tk nu wd tx' (nI (C ++ opsL A).length) pi (nI B.length) (nI (om - cntO A)) iw, ⟨tk, nu, wd, tx', pi, rfl, e2, e3, c1, PRr A B e5, c2⟩, ?_⟩
  intro post hp
  rw [e1]
  refine c3 post ?_
  rw [List.length_append, show (opsL A).length = A.length from List.length_map _] at hp
  exact hp
/-! the state's parts set -/
theorem CM_iw {M : MS} {b : Nat → Nat} {t : Nat} {tx0 : Nat → Int32} {ct s e nr : Nat} {C : List (Nat × Nat)} {st : List Nat} {om : Nat} {iw : Int32} {m : MS} (h : CM M b t tx0 ct s e nr C st om iw m) (v : Int32) : CM M b t tx0 ct s e nr C st om v (ms_set_isWhole m v) := by
  obtain ⟨tk, nu, wd, tx, pi, e1, e2, e3, e4, e5, e6⟩ := h
  rw [e1, mA_s_isWhole]
  exact ⟨tk, nu, wd, tx, pi, rfl, e2, e3, e4, e5, e6⟩
theorem CM_opens {M : MS} {b : Nat → Nat} {t : Nat} {tx0 : Nat → Int32} {ct s e nr : Nat} {C : List (Nat × Nat)} {st : List Nat} {om : Nat} {iw : Int32} {m : MS} (h : CM M b t tx0 ct s e nr C st om iw m) (v : Nat) : CM M b t tx0 ct s e nr C st v iw (ms_set_opens m (nI v)) := by
  obtain ⟨tk, nu, wd, tx, pi, e1, e2, e3, e4, e5, e6⟩ := h
  rw [e1, mA_s_opens]
  exact ⟨tk, nu, wd, tx, pi, rfl, e2, e3, e4, e5, e6⟩
theorem CM_push {M : MS} {b : Nat → Nat} {t : Nat} {tx0 : Nat → Int32} {ct s e nr : Nat} {C : List (Nat × Nat)} {st : List Nat} {om : Nat} {iw : Int32} {m : MS} (h : CM M b t tx0 ct s e nr C st om iw m) (hl : st.length < 160) {x : Nat} (hx : x < 50) : CM M b t tx0 ct s e nr C (x :: st) om iw (ms_set_piled (ms_set_pile m (upd (ms_pile m) (ms_piled m).toNatClampNeg (nI x))) (nI (st.length + 1))) ∧ vp_in (ms_piled m) 160 ∧ ms_piled m + 1 = nI (st.length + 1) := by
  obtain ⟨tk, nu, wd, tx, pi, e1, e2, e3, e4, e5, e6⟩ := h
  rw [e1, mA_piled, mA_pile, nI_clamp (by omega), mA_s_pile, mA_s_piled, nI_1]
  exact ⟨⟨tk, nu, wd, tx, _, rfl, e2, e3, e4, PR_push e5 hx, e6⟩, vp_in_nI hl (by decide), rfl⟩
theorem CM_pop {M : MS} {b : Nat → Nat} {t : Nat} {tx0 : Nat → Int32} {ct s e nr : Nat} {C : List (Nat × Nat)} {st : List Nat} {om : Nat} {iw : Int32} {m : MS} {x : Nat} (h : CM M b t tx0 ct s e nr C (x :: st) om iw m) : CM M b t tx0 ct s e nr C st om iw (ms_set_piled m (nI st.length)) := by
  obtain ⟨tk, nu, wd, tx, pi, e1, e2, e3, e4, e5, e6⟩ := h
  rw [e1, mA_s_piled]
  exact ⟨tk, nu, wd, tx, pi, rfl, e2, e3, e4, e5.2.2, e6⟩
theorem CM_top {M : MS} {b : Nat → Nat} {t : Nat} {tx0 : Nat → Int32} {ct s e nr : Nat} {C : List (Nat × Nat)} {st : List Nat} {om : Nat} {iw : Int32} {m : MS} {x y : Nat} (h : CM M b t tx0 ct s e nr C (x :: st) om iw m) (hy : y < 50) : CM M b t tx0 ct s e nr C (y :: st) om iw (ms_set_pile m (upd (ms_pile m) st.length (nI y))) ∧ ms_pile m st.length = nI x ∧ ms_piled m = nI (st.length + 1) := by
  obtain ⟨tk, nu, wd, tx, pi, e1, e2, e3, e4, e5, e6⟩ := h
  rw [e1, mA_pile, mA_s_pile, mA_piled]
  exact ⟨⟨tk, nu, wd, tx, _, rfl, e2, e3, e4, PR_push e5.2.2 hy, e6⟩, e5.1, rfl⟩
theorem m_opened8 {M : MS} {b : Nat → Nat} {t : Nat} {tx0 : Nat → Int32} {ct s e nr : Nat} {C : List (Nat × Nat)} {st : List Nat} {om : Nat} {iw : Int32} {m : MS} (h : CM M b t tx0 ct s e nr C st om iw m) (e8 : om = 8) (x : Int32) (post : Int32 → MS → Prop) (hp : post 3 m) : wM_opened x m post := by
  obtain ⟨tk, wd, F, e1, e2, e3, e4, e5, e6, e7, e8', e9, e10⟩ := CM_tok h
  unfold wM_opened
  rw [e6, e8]
  exact p_yes rfl hp
theorem m_opened {M : MS} {b : Nat → Nat} {t : Nat} {tx0 : Nat → Int32} {ct s e nr : Nat} {C : List (Nat × Nat)} {st : List Nat} {om : Nat} {iw : Int32} {m : MS} (h : CM M b t tx0 ct s e nr C st om iw m) (lt : om < 8) (hl : st.length < 160) {x : Nat} (hx : x < 50) : ∃ m1, CM M b t tx0 ct s e nr C (x :: st) (om + 1) iw m1 ∧ ∀ m2 post, rv (wM_nextToken m1) m2 → post 0 m2 → wM_opened (nI x) m post := by
  obtain ⟨tk, wd, F, e1, e2, e3, e4, e5, e6, e7, e8', e9, e10⟩ := CM_tok h
  have h1 := CM_opens h (om + 1)
  obtain ⟨h2, g2, g3⟩ := CM_push h1 hl hx
  refine ⟨_, h2, ?_⟩
  intro m2 post hn hp
  unfold wM_opened
  simp only [p_all]
  rw [e6, nI_1]
  refine p_no (fun z => ?_) ⟨g2, ?_⟩
  · have := (nI_eq (b := 8) (by omega) (by decide)).mp z
    omega
  · have e11 : ms_piled (ms_set_pile (ms_set_opens m (nI (om + 1))) (upd (ms_pile (ms_set_opens m (nI (om + 1)))) (ms_piled (ms_set_opens m (nI (om + 1)))).toNatClampNeg (nI x))) = ms_piled (ms_set_opens m (nI (om + 1))) := by
      simp only [ms_piled, ms_set_pile, ms_set_opens]
    rw [e11, g3]
    exact hn _ hp
/-! names -/
theorem pkb_same {b c : Nat → Nat} {s t : Nat} : ∀ k, (∀ j, j < k → b (s + j) ≤ 255 ∧ c (t + j) ≤ 255) → pkb b s k = pkb c t k → ∀ j, j < k → b (s + j) = c (t + j) := by
  intro k
  induction k with
  | zero => intro _ _ j hj; exact absurd hj (Nat.not_lt_zero j)
  | succ k ih =>
    intro h e j hj
    have e' : pkb b s k * 256 + b (s + k) = pkb c t k * 256 + c (t + k) := e
    have q := h k (by omega)
    by_cases ej : j = k
    · rw [ej]
      omega
    · exact ih (fun j hj => h j (by omega)) (by omega) j (by omega)
theorem m_w4 {x y z u : Nat} (h1 : x ≤ 255) (h2 : y ≤ 255) (h3 : z ≤ 255) (h4 : u ≤ 255) (S : MS) (post : Int64 → MS → Prop) : wM_w4 (nI x) (nI y) (nI z) (nI u) S post = post (lN (((x * 256 + y) * 256 + z) * 256 + u)) S := by
  refine congrArg (fun v => post v S) ?_
  show (k_shlL ((k_shlL ((k_shlL (Int32.toInt64 (nI x)) 8) ||| (Int32.toInt64 (nI y))) 8) ||| (Int32.toInt64 (nI z))) 8) ||| (Int32.toInt64 (nI u)) = _
  rw [nI_l (n := x) (by omega), lN_shl (by omega) (by omega), lN_shl (by omega) (by omega), lN_shl (by omega) (by omega)]
theorem m_w3 {x y z : Nat} (h1 : x ≤ 255) (h2 : y ≤ 255) (h3 : z ≤ 255) (S : MS) (post : Int64 → MS → Prop) : wM_w3 (nI x) (nI y) (nI z) S post = post (lN ((x * 256 + y) * 256 + z)) S := by
  refine congrArg (fun v => post v S) ?_
  show (k_shlL ((k_shlL (Int32.toInt64 (nI x)) 8) ||| (Int32.toInt64 (nI y))) 8) ||| (Int32.toInt64 (nI z)) = _
  rw [nI_l (n := x) (by omega), lN_shl (by omega) (by omega), lN_shl (by omega) (by omega)]
theorem m_isLaughed {S : CS} {n s0 : Nat} {M : MS} {b : Nat → Nat} {t : Nat} {tx0 : Nat → Int32} {ct s e nr : Nat} {C : List (Nat × Nat)} {st : List Nat} {om : Nat} {iw : Int32} {m : MS} (H : HX S M n b t s0) (h : CM M b t tx0 ct s e nr C st om iw m) {nc : Nat} (hT : TN n ct s e nc nr) (post : Int32 → MS → Prop) (hp : post (if ct = 4 then 1 else 0) m) : wM_isLaughed m post := by
  obtain ⟨tk, wd, F, e1, e2, e3, e4, e5, e6, e7, e8, e9, e10⟩ := CM_tok h
  have hn := H.1.1
  have te := hT.2.1
  have se := hT.1
  obtain ⟨f1, f2, f3, f4, f5, f6, f7⟩ := F
  unfold wM_isLaughed
  rw [e1, e8, e9]
  by_cases c : tk = 2
  · obtain ⟨g1, g2, g3⟩ := f6 c
    refine p_yes c ?_
    rw [nI_sub se]
    have e77 : (nI (e - s) = 7) = (e - s = 7) := propext (nI_eq (b := 7) (by omega) (by decide))
    rw [e77]
    have no : (¬ wEq b s e 4) → post 0 m := by
      intro z
      rw [if_neg (fun q => z (g3.mpr q))] at hp
      exact hp
    have yes : wEq b s e 4 → post 1 m := by
      intro z
      rw [if_pos (g3.mp z)] at hp
      exact hp
    have w4l : wLn 4 = 7 := rfl
    refine p_two (fun q => ?_) (fun q => no (fun z => q (by have := z.1; omega)))
    have byt : ∀ j, j < 7 → b (s + j) ≤ 255 := fun j hj => (H.1.2.2.2 (s + j) (by omega)).2.2
    have at0 : ∀ j, j < 7 → ∀ post2 : Int32 → MS → Prop, post2 (nI (b (s + j))) m → wM_byteAt (nI (s + j)) m post2 := by
      intro j hj post2 h2
      obtain ⟨tk', nu', wd', tx', pi', q1, _⟩ := h
      rw [q1] at h2 ⊢
      rw [m_byte H.1 (by omega), bt_in (by omega)]
      exact h2
    have ad : ∀ j : Nat, nI s + nI j = nI (s + j) := fun j => nI_add s j
    refine at0 0 (by omega) _ ?_
    rw [e9]
    refine (ad 1 ▸ at0 1 (by omega) _ ?_ : wM_byteAt (nI s + 1) m _)
    rw [e9]
    refine (ad 2 ▸ at0 2 (by omega) _ ?_ : wM_byteAt (nI s + 2) m _)
    rw [e9]
    refine (ad 3 ▸ at0 3 (by omega) _ ?_ : wM_byteAt (nI s + 3) m _)
    rw [m_w4 (byt 0 (by omega)) (byt 1 (by omega)) (byt 2 (by omega)) (byt 3 (by omega)), show wM_w4 108 97 117 103 m = fun p => wM_w4 (nI 108) (nI 97) (nI 117) (nI 103) m p from rfl]
    dsimp only
    rw [m_w4 (by decide) (by decide) (by decide) (by decide)]
    have hb0 := byt 0 (by omega)
    have hb1 := byt 1 (by omega)
    have hb2 := byt 2 (by omega)
    have hb3 := byt 3 (by omega)
    have hb4 := byt 4 (by omega)
    have hb5 := byt 5 (by omega)
    have hb6 := byt 6 (by omega)
    rw [lN_injB (by omega) (by omega)]
    refine p_two (fun q1 => ?_) (fun q1 => no (fun z => q1 ?_))
    · rw [e9]
      refine (ad 4 ▸ at0 4 (by omega) _ ?_ : wM_byteAt (nI s + 4) m _)
      rw [e9]
      refine (ad 5 ▸ at0 5 (by omega) _ ?_ : wM_byteAt (nI s + 5) m _)
      rw [e9]
      refine (ad 6 ▸ at0 6 (by omega) _ ?_ : wM_byteAt (nI s + 6) m _)
      rw [m_w3 hb4 hb5 hb6, show wM_w3 104 101 100 m = fun p => wM_w3 (nI 104) (nI 101) (nI 100) m p from rfl]
      dsimp only
      rw [m_w3 (by decide) (by decide) (by decide), lN_injB (by omega) (by omega)]
      refine p_two (fun q2 => yes ⟨by omega, ?_⟩) (fun q2 => no (fun z => q2 ?_))
      · intro j hj
        have : j = 0 ∨ j = 1 ∨ j = 2 ∨ j = 3 ∨ j = 4 ∨ j = 5 ∨ j = 6 := by omega
        rcases this with z | z | z | z | z | z | z <;> subst z
        · show b (s + 0) = 108
          omega
        · show b (s + 1) = 97
          omega
        · show b (s + 2) = 117
          omega
        · show b (s + 3) = 103
          omega
        · show b (s + 4) = 104
          omega
        · show b (s + 5) = 101
          omega
        · show b (s + 6) = 100
          omega
      · have y4 : b (s + 4) = 104 := z.2 4 (by omega)
        have y5 : b (s + 5) = 101 := z.2 5 (by omega)
        have y6 : b (s + 6) = 100 := z.2 6 (by omega)
        rw [y4, y5, y6]
    · have y0 : b (s + 0) = 108 := z.2 0 (by omega)
      have y1 : b (s + 1) = 97 := z.2 1 (by omega)
      have y2 : b (s + 2) = 117 := z.2 2 (by omega)
      have y3 : b (s + 3) = 103 := z.2 3 (by omega)
      rw [y0, y1, y2, y3]
  · refine p_no c ?_
    rw [if_neg (fun z => c (f1 (by omega)))] at hp
    exact hp
theorem m_nameOf {S : CS} {n s0 : Nat} {M : MS} {b : Nat → Nat} {t : Nat} {tx0 : Nat → Int32} {ct s e nr : Nat} {C : List (Nat × Nat)} {st : List Nat} {om : Nat} {iw : Int32} {m : MS} (H : HX S M n b t s0) (h : CM M b t tx0 ct s e nr C st om iw m) {nc : Nat} (hT : TN n ct s e nc nr) (post : Int32 → MS → Prop) (hp : post (if ct < 12 then nI ct else -1) m) : wM_nameOf m post := by
  obtain ⟨tk, wd, F, e1, e2, e3, e4, e5, e6, e7, e8, e9, e10⟩ := CM_tok h
  have F0 := F
  obtain ⟨f1, f2, f3, f4, f5, f6, f7⟩ := F
  unfold wM_nameOf
  rw [e1]
  by_cases c : tk = 2
  · obtain ⟨g1, g2, g3⟩ := f6 c
    have g : ∀ i, i < 30 → i ≠ 4 → (ms_word m = wK i ↔ ct = i) := by
      intro i hi h4
      rw [e2]
      exact (g2 i hi).resolve_right h4
    have at12 : ∀ i : Nat, i < 12 → ct = i → post (nI i) m := by
      intro i hi e0
      rw [if_pos (by omega), e0] at hp
      exact hp
    refine p_yes c ?_
    rw [wv_0]
    refine p_two (fun q => at12 0 (by decide) ((g 0 (by decide) (by decide)).mp q)) (fun q => ?_)
    have n0 : ¬ ct = 0 := fun z => q ((g 0 (by decide) (by decide)).mpr z)
    clear q
    rw [wv_1]
    refine p_two (fun q => at12 1 (by decide) ((g 1 (by decide) (by decide)).mp q)) (fun q => ?_)
    have n1 : ¬ ct = 1 := fun z => q ((g 1 (by decide) (by decide)).mpr z)
    clear q
    rw [wv_2]
    refine p_two (fun q => at12 2 (by decide) ((g 2 (by decide) (by decide)).mp q)) (fun q => ?_)
    have n2 : ¬ ct = 2 := fun z => q ((g 2 (by decide) (by decide)).mpr z)
    clear q
    rw [wv_3]
    refine p_two (fun q => at12 3 (by decide) ((g 3 (by decide) (by decide)).mp q)) (fun q => ?_)
    have n3 : ¬ ct = 3 := fun z => q ((g 3 (by decide) (by decide)).mpr z)
    clear q
    refine m_isLaughed H h hT _ (p_two (fun q => ?_) (fun q => at12 4 (by decide) ?_))
    rotate_left
    · by_cases z : ct = 4
      · exact z
      · rw [if_neg z] at q
        exact absurd rfl q
    have n4 : ¬ ct = 4 := by
      intro z
      rw [if_pos z] at q
      exact absurd q (by decide)
    rw [wv_5]
    refine p_two (fun q => at12 5 (by decide) ((g 5 (by decide) (by decide)).mp q)) (fun q => ?_)
    have n5 : ¬ ct = 5 := fun z => q ((g 5 (by decide) (by decide)).mpr z)
    clear q
    rw [wv_6]
    refine p_two (fun q => at12 6 (by decide) ((g 6 (by decide) (by decide)).mp q)) (fun q => ?_)
    have n6 : ¬ ct = 6 := fun z => q ((g 6 (by decide) (by decide)).mpr z)
    clear q
    rw [wv_7]
    refine p_two (fun q => at12 7 (by decide) ((g 7 (by decide) (by decide)).mp q)) (fun q => ?_)
    have n7 : ¬ ct = 7 := fun z => q ((g 7 (by decide) (by decide)).mpr z)
    clear q
    rw [wv_8]
    refine p_two (fun q => at12 8 (by decide) ((g 8 (by decide) (by decide)).mp q)) (fun q => ?_)
    have n8 : ¬ ct = 8 := fun z => q ((g 8 (by decide) (by decide)).mpr z)
    clear q
    rw [wv_9]
    refine p_two (fun q => at12 9 (by decide) ((g 9 (by decide) (by decide)).mp q)) (fun q => ?_)
    have n9 : ¬ ct = 9 := fun z => q ((g 9 (by decide) (by decide)).mpr z)
    clear q
    rw [wv_10]
    refine p_two (fun q => at12 10 (by decide) ((g 10 (by decide) (by decide)).mp q)) (fun q => ?_)
    have n10 : ¬ ct = 10 := fun z => q ((g 10 (by decide) (by decide)).mpr z)
    clear q
    rw [wv_11]
    refine p_two (fun q => at12 11 (by decide) ((g 11 (by decide) (by decide)).mp q)) (fun q => ?_)
    have n11 : ¬ ct = 11 := fun z => q ((g 11 (by decide) (by decide)).mpr z)
    clear q
    rw [if_neg (by omega)] at hp
    exact hp
  · refine p_no c ?_
    rw [if_neg (fun z => c (f1 (by omega)))] at hp
    exact hp
