/-! PURE LAYER: reading, the reference's small steps -/
theorem wv_0 (S : MS) (post : Int64 → MS → Prop) : wM_w3 100 97 121 S post = post (wK 0) S := congrArg (fun z => post z S) (show ((k_shlL ((k_shlL (Int32.toInt64 100) 8) ||| (Int32.toInt64 97)) 8) ||| (Int32.toInt64 121)) = wK 0 by decide +kernel)
theorem wv_1 (S : MS) (post : Int64 → MS → Prop) : wM_w4 107 105 110 100 S post = post (wK 1) S := congrArg (fun z => post z S) (show ((k_shlL ((k_shlL ((k_shlL (Int32.toInt64 107) 8) ||| (Int32.toInt64 105)) 8) ||| (Int32.toInt64 110)) 8) ||| (Int32.toInt64 100)) = wK 1 by decide +kernel)
theorem wv_2 (S : MS) (post : Int64 → MS → Prop) : wM_w5 103 114 105 101 102 S post = post (wK 2) S := congrArg (fun z => post z S) (show ((k_shlL ((k_shlL ((k_shlL ((k_shlL (Int32.toInt64 103) 8) ||| (Int32.toInt64 114)) 8) ||| (Int32.toInt64 105)) 8) ||| (Int32.toInt64 101)) 8) ||| (Int32.toInt64 102)) = wK 2 by decide +kernel)
theorem wv_3 (S : MS) (post : Int64 → MS → Prop) : wM_w4 109 111 111 100 S post = post (wK 3) S := congrArg (fun z => post z S) (show ((k_shlL ((k_shlL ((k_shlL (Int32.toInt64 109) 8) ||| (Int32.toInt64 111)) 8) ||| (Int32.toInt64 111)) 8) ||| (Int32.toInt64 100)) = wK 3 by decide +kernel)
theorem wv_5 (S : MS) (post : Int64 → MS → Prop) : wM_w5 104 111 117 115 101 S post = post (wK 5) S := congrArg (fun z => post z S) (show ((k_shlL ((k_shlL ((k_shlL ((k_shlL (Int32.toInt64 104) 8) ||| (Int32.toInt64 111)) 8) ||| (Int32.toInt64 117)) 8) ||| (Int32.toInt64 115)) 8) ||| (Int32.toInt64 101)) = wK 5 by decide +kernel)
theorem wv_6 (S : MS) (post : Int64 → MS → Prop) : wM_w5 115 107 105 108 108 S post = post (wK 6) S := congrArg (fun z => post z S) (show ((k_shlL ((k_shlL ((k_shlL ((k_shlL (Int32.toInt64 115) 8) ||| (Int32.toInt64 107)) 8) ||| (Int32.toInt64 105)) 8) ||| (Int32.toInt64 108)) 8) ||| (Int32.toInt64 108)) = wK 6 by decide +kernel)
theorem wv_7 (S : MS) (post : Int64 → MS → Prop) : wM_w3 97 103 101 S post = post (wK 7) S := congrArg (fun z => post z S) (show ((k_shlL ((k_shlL (Int32.toInt64 97) 8) ||| (Int32.toInt64 103)) 8) ||| (Int32.toInt64 101)) = wK 7 by decide +kernel)
theorem wv_8 (S : MS) (post : Int64 → MS → Prop) : wM_w5 116 105 114 101 100 S post = post (wK 8) S := congrArg (fun z => post z S) (show ((k_shlL ((k_shlL ((k_shlL ((k_shlL (Int32.toInt64 116) 8) ||| (Int32.toInt64 105)) 8) ||| (Int32.toInt64 114)) 8) ||| (Int32.toInt64 101)) 8) ||| (Int32.toInt64 100)) = wK 8 by decide +kernel)
theorem wv_9 (S : MS) (post : Int64 → MS → Prop) : wM_w4 102 97 108 108 S post = post (wK 9) S := congrArg (fun z => post z S) (show ((k_shlL ((k_shlL ((k_shlL (Int32.toInt64 102) 8) ||| (Int32.toInt64 97)) 8) ||| (Int32.toInt64 108)) 8) ||| (Int32.toInt64 108)) = wK 9 by decide +kernel)
theorem wv_10 (S : MS) (post : Int64 → MS → Prop) : wM_w3 119 104 111 S post = post (wK 10) S := congrArg (fun z => post z S) (show ((k_shlL ((k_shlL (Int32.toInt64 119) 8) ||| (Int32.toInt64 104)) 8) ||| (Int32.toInt64 111)) = wK 10 by decide +kernel)
theorem wv_11 (S : MS) (post : Int64 → MS → Prop) : wM_w5 116 104 101 114 101 S post = post (wK 11) S := congrArg (fun z => post z S) (show ((k_shlL ((k_shlL ((k_shlL ((k_shlL (Int32.toInt64 116) 8) ||| (Int32.toInt64 104)) 8) ||| (Int32.toInt64 101)) 8) ||| (Int32.toInt64 114)) 8) ||| (Int32.toInt64 101)) = wK 11 by decide +kernel)
theorem wv_12 (S : MS) (post : Int64 → MS → Prop) : wM_w5 101 97 115 101 115 S post = post (wK 12) S := congrArg (fun z => post z S) (show ((k_shlL ((k_shlL ((k_shlL ((k_shlL (Int32.toInt64 101) 8) ||| (Int32.toInt64 97)) 8) ||| (Int32.toInt64 115)) 8) ||| (Int32.toInt64 101)) 8) ||| (Int32.toInt64 115)) = wK 12 by decide +kernel)
theorem wv_13 (S : MS) (post : Int64 → MS → Prop) : wM_w6 108 97 117 103 104 115 S post = post (wK 13) S := congrArg (fun z => post z S) (show ((k_shlL ((k_shlL ((k_shlL ((k_shlL ((k_shlL (Int32.toInt64 108) 8) ||| (Int32.toInt64 97)) 8) ||| (Int32.toInt64 117)) 8) ||| (Int32.toInt64 103)) 8) ||| (Int32.toInt64 104)) 8) ||| (Int32.toInt64 115)) = wK 13 by decide +kernel)
theorem wv_14 (S : MS) (post : Int64 → MS → Prop) : wM_w5 103 114 111 119 115 S post = post (wK 14) S := congrArg (fun z => post z S) (show ((k_shlL ((k_shlL ((k_shlL ((k_shlL (Int32.toInt64 103) 8) ||| (Int32.toInt64 114)) 8) ||| (Int32.toInt64 111)) 8) ||| (Int32.toInt64 119)) 8) ||| (Int32.toInt64 115)) = wK 14 by decide +kernel)
theorem wv_15 (S : MS) (post : Int64 → MS → Prop) : wM_w5 99 108 111 119 110 S post = post (wK 15) S := congrArg (fun z => post z S) (show ((k_shlL ((k_shlL ((k_shlL ((k_shlL (Int32.toInt64 99) 8) ||| (Int32.toInt64 108)) 8) ||| (Int32.toInt64 111)) 8) ||| (Int32.toInt64 119)) 8) ||| (Int32.toInt64 110)) = wK 15 by decide +kernel)
theorem wv_16 (S : MS) (post : Int64 → MS → Prop) : wM_w4 115 101 110 100 S post = post (wK 16) S := congrArg (fun z => post z S) (show ((k_shlL ((k_shlL ((k_shlL (Int32.toInt64 115) 8) ||| (Int32.toInt64 101)) 8) ||| (Int32.toInt64 110)) 8) ||| (Int32.toInt64 100)) = wK 16 by decide +kernel)
theorem wv_17 (S : MS) (post : Int64 → MS → Prop) : wM_w4 114 101 115 116 S post = post (wK 17) S := congrArg (fun z => post z S) (show ((k_shlL ((k_shlL ((k_shlL (Int32.toInt64 114) 8) ||| (Int32.toInt64 101)) 8) ||| (Int32.toInt64 115)) 8) ||| (Int32.toInt64 116)) = wK 17 by decide +kernel)
theorem wv_18 (S : MS) (post : Int64 → MS → Prop) : wM_w2 98 121 S post = post (wK 18) S := congrArg (fun z => post z S) (show ((k_shlL (Int32.toInt64 98) 8) ||| (Int32.toInt64 121)) = wK 18 by decide +kernel)
theorem wv_19 (S : MS) (post : Int64 → MS → Prop) : wM_w2 116 111 S post = post (wK 19) S := congrArg (fun z => post z S) (show ((k_shlL (Int32.toInt64 116) 8) ||| (Int32.toInt64 111)) = wK 19 by decide +kernel)
theorem wv_20 (S : MS) (post : Int64 → MS → Prop) : wM_w4 104 111 108 100 S post = post (wK 20) S := congrArg (fun z => post z S) (show ((k_shlL ((k_shlL ((k_shlL (Int32.toInt64 104) 8) ||| (Int32.toInt64 111)) 8) ||| (Int32.toInt64 108)) 8) ||| (Int32.toInt64 100)) = wK 20 by decide +kernel)
theorem wv_21 (S : MS) (post : Int64 → MS → Prop) : wM_w4 102 114 111 109 S post = post (wK 21) S := congrArg (fun z => post z S) (show ((k_shlL ((k_shlL ((k_shlL (Int32.toInt64 102) 8) ||| (Int32.toInt64 114)) 8) ||| (Int32.toInt64 111)) 8) ||| (Int32.toInt64 109)) = wK 21 by decide +kernel)
theorem wv_22 (S : MS) (post : Int64 → MS → Prop) : wM_w5 109 111 111 100 115 S post = post (wK 22) S := congrArg (fun z => post z S) (show ((k_shlL ((k_shlL ((k_shlL ((k_shlL (Int32.toInt64 109) 8) ||| (Int32.toInt64 111)) 8) ||| (Int32.toInt64 111)) 8) ||| (Int32.toInt64 100)) 8) ||| (Int32.toInt64 115)) = wK 22 by decide +kernel)
theorem wv_23 (S : MS) (post : Int64 → MS → Prop) : wM_w2 105 102 S post = post (wK 23) S := congrArg (fun z => post z S) (show ((k_shlL (Int32.toInt64 105) 8) ||| (Int32.toInt64 102)) = wK 23 by decide +kernel)
theorem wv_24 (S : MS) (post : Int64 → MS → Prop) : wM_w4 116 104 101 110 S post = post (wK 24) S := congrArg (fun z => post z S) (show ((k_shlL ((k_shlL ((k_shlL (Int32.toInt64 116) 8) ||| (Int32.toInt64 104)) 8) ||| (Int32.toInt64 101)) 8) ||| (Int32.toInt64 110)) = wK 24 by decide +kernel)
theorem wv_25 (S : MS) (post : Int64 → MS → Prop) : wM_w4 101 108 115 101 S post = post (wK 25) S := congrArg (fun z => post z S) (show ((k_shlL ((k_shlL ((k_shlL (Int32.toInt64 101) 8) ||| (Int32.toInt64 108)) 8) ||| (Int32.toInt64 115)) 8) ||| (Int32.toInt64 101)) = wK 25 by decide +kernel)
theorem wv_26 (S : MS) (post : Int64 → MS → Prop) : wM_w3 101 110 100 S post = post (wK 26) S := congrArg (fun z => post z S) (show ((k_shlL ((k_shlL (Int32.toInt64 101) 8) ||| (Int32.toInt64 110)) 8) ||| (Int32.toInt64 100)) = wK 26 by decide +kernel)
theorem wv_27 (S : MS) (post : Int64 → MS → Prop) : wM_w2 111 114 S post = post (wK 27) S := congrArg (fun z => post z S) (show ((k_shlL (Int32.toInt64 111) 8) ||| (Int32.toInt64 114)) = wK 27 by decide +kernel)
theorem wv_28 (S : MS) (post : Int64 → MS → Prop) : wM_w3 97 110 100 S post = post (wK 28) S := congrArg (fun z => post z S) (show ((k_shlL ((k_shlL (Int32.toInt64 97) 8) ||| (Int32.toInt64 110)) 8) ||| (Int32.toInt64 100)) = wK 28 by decide +kernel)
theorem wv_29 (S : MS) (post : Int64 → MS → Prop) : wM_w3 110 111 116 S post = post (wK 29) S := congrArg (fun z => post z S) (show ((k_shlL ((k_shlL (Int32.toInt64 110) 8) ||| (Int32.toInt64 111)) 8) ||| (Int32.toInt64 116)) = wK 29 by decide +kernel)
/-- the pile: its top first -/
def PR : List Nat → (Nat → Int32) → Prop
  | [], _ => True
  | x :: l, pi => pi l.length = nI x ∧ x < 50 ∧ PR l pi
theorem PR_upd {v : Int32} : ∀ (l : List Nat) (pi : Nat → Int32) (k : Nat), l.length ≤ k → PR l pi → PR l (upd pi k v) := by
  intro l
  induction l with
  | nil => intro _ _ _ _; trivial
  | cons x l ih =>
    intro pi k hk h
    have hk' : l.length + 1 ≤ k := hk
    refine ⟨?_, h.2.1, ih pi k (by omega) h.2.2⟩
    rw [upd_ne _ _ (by omega)]
    exact h.1
theorem PR_push {l : List Nat} {pi : Nat → Int32} (h : PR l pi) {x : Nat} (hx : x < 50) : PR (x :: l) (upd pi l.length (nI x)) := ⟨upd_eq _ _ _, hx, PR_upd l pi l.length (Nat.le_refl _) h⟩
def CodeM (t : Nat) (C : List (Nat × Nat)) (tx : Nat → Int32) : Prop := ∀ j q, C[j]? = some q → tx (705 * t + 97 + 2 * j) = nI q.1 ∧ tx (705 * t + 98 + 2 * j) = nI q.2
theorem CodeM_add {t : Nat} {C : List (Nat × Nat)} {tx : Nat → Int32} (h : CodeM t C tx) (k v : Nat) : CodeM t (C ++ [(k, v)]) (upd (upd tx (705 * t + 97 + 2 * C.length) (nI k)) (705 * t + 98 + 2 * C.length) (nI v)) := by
  intro j q e
  by_cases lt : j < C.length
  · rw [List.getElem?_append_left lt] at e
    rw [upd_ne _ _ (by omega), upd_ne _ _ (by omega), upd_ne _ _ (by omega), upd_ne _ _ (by omega)]
    exact h j q e
  · rw [List.getElem?_append_right (by omega)] at e
    have ej : j - C.length = 0 := by
      by_cases z : j - C.length = 0
      · exact z
      · rw [List.getElem?_eq_none (by simp; omega)] at e
        cases e
    rw [ej] at e
    have e1 : (k, v) = q := Option.some.inj e
    rw [← e1, show j = C.length by omega, upd_eq, upd_ne _ _ (by omega), upd_eq]
    exact ⟨rfl, rfl⟩
/-- the reference as it reads -/
def CM (M : MS) (b : Nat → Nat) (t : Nat) (tx0 : Nat → Int32) (ct s e nr : Nat) (C : List (Nat × Nat)) (st : List Nat) (om : Nat) (iw : Int32) (m : MS) : Prop := ∃ (tk nu : Int32) (wd : Int64) (tx pi : Nat → Int32), m = mA M (nI e) (nI s) tk nu wd tx (nI C.length) pi (nI st.length) (nI om) iw ∧ TokF b s e ct tk wd ∧ (ct = 32 → nu = nI nr) ∧ CodeM t C tx ∧ PR st pi ∧ (∀ k, k < 705 * t + 97 → tx k = tx0 k)
/-- what reading rests on -/
def HX (S : CS) (M : MS) (n : Nat) (b : Nat → Nat) (t s0 : Nat) : Prop := TP S M n b ∧ t < 4 ∧ s0 < 3 ∧ cx_r_law S = nI (12 + s0) ∧ ms_sort0 M = nI s0 ∧ ms_text0 M = nI (705 * t)
def TN (n ct s e nc nr : Nat) : Prop := s ≤ e ∧ e ≤ n ∧ (ct ≠ 31 → s < e) ∧ (ct = 32 → nr ≤ 999999 ∧ (nr ≤ 9999 → nc = nr) ∧ (9999 < nr → nc = 10000)) ∧ ct ≤ 45
theorem tok_sg {b : Nat → Nat} {s e ct : Nat} {tk : Int32} {wd : Int64} (F : TokF b s e ct tk wd) {c : Nat} (h1 : 33 ≤ c) (h2 : c ≤ 45) : (tk = nI (sgN c)) = (ct = c) := by
  have t1 : ∀ c, c < 46 → 33 ≤ c → ∀ d, d < 46 → 33 ≤ d → (nI (sgN d) = nI (sgN c) ↔ d = c) := by decide +kernel
  have t2 : ∀ c, c < 46 → 33 ≤ c → ¬ (0 : Int32) = nI (sgN c) ∧ ¬ (1 : Int32) = nI (sgN c) ∧ ¬ (2 : Int32) = nI (sgN c) ∧ ¬ (3 : Int32) = nI (sgN c) ∧ ¬ (58 : Int32) = nI (sgN c) := by decide +kernel
  obtain ⟨f1, f2, f3, f4, f5, f6, f7⟩ := F
  obtain ⟨z0, z1, z2, z3, z58⟩ := t2 c (by omega) h1
  apply propext
  by_cases c1 : ct < 30
  · rw [f1 c1]
    exact ⟨fun z => absurd z z2, fun z => by omega⟩
  · by_cases c2 : ct = 31
    · rw [f2 c2]
      exact ⟨fun z => absurd z z0, fun z => by omega⟩
    · by_cases c3 : ct = 32
      · rw [f3 c3]
        exact ⟨fun z => absurd z z1, fun z => by omega⟩
      · by_cases c4 : ct = 30
        · rcases f5 c4 with q | q | q
          · rw [q]
            exact ⟨fun z => absurd z z2, fun z => by omega⟩
          · rw [q]
            exact ⟨fun z => absurd z z3, fun z => by omega⟩
          · rw [q]
            exact ⟨fun z => absurd z z58, fun z => by omega⟩
        · rw [f4 (by omega) f7]
          exact t1 c (by omega) h1 ct (by omega) (by omega)
theorem tok_n {b : Nat → Nat} {s e ct : Nat} {tk : Int32} {wd : Int64} (F : TokF b s e ct tk wd) : (tk = 1) = (ct = 32) := by
  have t2 : ∀ c, c < 46 → 33 ≤ c → ¬ nI (sgN c) = 1 := by decide +kernel
  obtain ⟨f1, f2, f3, f4, f5, f6, f7⟩ := F
  apply propext
  by_cases c1 : ct < 30
  · rw [f1 c1]
    exact ⟨fun z => absurd z (by decide), fun z => by omega⟩
  · by_cases c2 : ct = 31
    · rw [f2 c2]
      exact ⟨fun z => absurd z (by decide), fun z => by omega⟩
    · by_cases c3 : ct = 32
      · exact ⟨fun _ => c3, fun _ => f3 c3⟩
      · by_cases c4 : ct = 30
        · rcases f5 c4 with q | q | q
          · rw [q]
            exact ⟨fun z => absurd z (by decide), fun z => by omega⟩
          · rw [q]
            exact ⟨fun z => absurd z (by decide), fun z => by omega⟩
          · rw [q]
            exact ⟨fun z => absurd z (by decide), fun z => by omega⟩
        · rw [f4 (by omega) f7]
          exact ⟨fun z => absurd z (t2 ct (by omega) (by omega)), fun z => by omega⟩
theorem tok_w {b : Nat → Nat} {s e ct : Nat} {tk : Int32} {wd : Int64} (F : TokF b s e ct tk wd) (S : MS) {i : Nat} (hi : i < 30) (h4 : i ≠ 4) (post : Int32 → MS → Prop) (e1 : ms_token S = tk) (e2 : ms_word S = wd) : wM_isWord (wK i) S post = post (if ct = i then 1 else 0) S := by
  obtain ⟨f1, f2, f3, f4, f5, f6, f7⟩ := F
  unfold wM_isWord
  rw [e1, e2]
  by_cases c : tk = 2
  · rw [p_T c]
    obtain ⟨g1, g2, g3⟩ := f6 c
    have g := (g2 i hi).resolve_right h4
    by_cases d : wd = wK i
    · rw [p_T d, if_pos (g.mp d)]
    · rw [p_F d, if_neg (fun z => d (g.mpr z))]
  · rw [p_F c, if_neg (fun z => c (f1 (by omega)))]
theorem CM_tok {M : MS} {b : Nat → Nat} {t : Nat} {tx0 : Nat → Int32} {ct s e nr : Nat} {C : List (Nat × Nat)} {st : List Nat} {om : Nat} {iw : Int32} {m : MS} (h : CM M b t tx0 ct s e nr C st om iw m) : ∃ (tk : Int32) (wd : Int64), TokF b s e ct tk wd ∧ ms_token m = tk ∧ ms_word m = wd ∧ (ct = 32 → ms_number m = nI nr) ∧ ms_isWhole m = iw ∧ ms_piled m = nI st.length ∧ ms_opens m = nI om ∧ ms_sort0 m = ms_sort0 M ∧ ms_at m = nI e ∧ ms_place m = nI s ∧ PR st (ms_pile m) := by
  obtain ⟨tk, nu, wd, tx, pi, e1, e2, e3, e4, e5, e6⟩ := h
  refine ⟨tk, wd, e2, ?_⟩
  rw [e1, mA_token, mA_word, mA_number, mA_isWhole, mA_piled, mA_opens, mA_sort0, mA_at, mA_place, mA_pile]
  exact ⟨rfl, rfl, e3, rfl, rfl, rfl, rfl, rfl, rfl, e5⟩
theorem m_word {M : MS} {b : Nat → Nat} {t : Nat} {tx0 : Nat → Int32} {ct s e nr : Nat} {C : List (Nat × Nat)} {st : List Nat} {om : Nat} {iw : Int32} {m : MS} (h : CM M b t tx0 ct s e nr C st om iw m) {i : Nat} (hi : i < 30) (h4 : i ≠ 4) (post : Int32 → MS → Prop) : wM_isWord (wK i) m post = post (if ct = i then 1 else 0) m := by
  obtain ⟨tk, wd, F, e1, e2, _⟩ := CM_tok h
  exact tok_w F m hi h4 post e1 e2
theorem m_sg {M : MS} {b : Nat → Nat} {t : Nat} {tx0 : Nat → Int32} {ct s e nr : Nat} {C : List (Nat × Nat)} {st : List Nat} {om : Nat} {iw : Int32} {m : MS} (h : CM M b t tx0 ct s e nr C st om iw m) {c : Nat} (h1 : 33 ≤ c) (h2 : c ≤ 45) : (ms_token m = nI (sgN c)) = (ct = c) := by
  obtain ⟨tk, wd, F, e1, e2, _⟩ := CM_tok h
  rw [e1]
  exact tok_sg F h1 h2
theorem m_tn {M : MS} {b : Nat → Nat} {t : Nat} {tx0 : Nat → Int32} {ct s e nr : Nat} {C : List (Nat × Nat)} {st : List Nat} {om : Nat} {iw : Int32} {m : MS} (h : CM M b t tx0 ct s e nr C st om iw m) : (ms_token m = 1) = (ct = 32) := by
  obtain ⟨tk, wd, F, e1, e2, _⟩ := CM_tok h
  rw [e1]
  exact tok_n F
/-- a token further, both -/
theorem both_adv {S : CS} {M : MS} {n : Nat} {b : Nat → Nat} {t s0 : Nat} (H : HX S M n b t s0) {tx0 : Nat → Int32} {ct s e nc nr : Nat} (hT : TN n ct s e nc nr) : ∃ ct' s' e' nc' nr', e ≤ s' ∧ TN n ct' s' e' nc' nr' ∧ (∀ C op c, CC S ct s e nc C op c → ∃ c', CC S ct' s' e' nc' C op c' ∧ rv (wC_X6_advance c) c') ∧ (∀ C st om iw m, CM M b t tx0 ct s e nr C st om iw m → ∃ m', CM M b t tx0 ct' s' e' nr' C st om iw m' ∧ rv (wM_nextToken m) m') := by
  obtain ⟨ct', s', e', nc', nr', tk, wv, ⟨a1, a2, a3, a4, a5⟩, F, a7, hC, hM⟩ := sim_adv H.1 (p := e) hT.2.1
  refine ⟨ct', s', e', nc', nr', a1, ⟨a2, a3, a5, a7, F.2.2.2.2.2.2⟩, ?_, ?_⟩
  · rintro C op c ⟨nu, cd, e1, e2, e3⟩
    refine ⟨cA S (nI ct') (nI s') (nI e') (if ct' = 32 then nI nc' else nu) cd (nI C.length) (nI op) 0, ⟨_, cd, rfl, fun z => if_pos z, e3⟩, ?_⟩
    rw [e1]
    exact hC _ _ _ _ _ _
  · rintro C st om iw m ⟨tk0, nu, wd, tx, pi, e1, e2, e3, e4, e5, e6⟩
    refine ⟨mA M (nI e') (nI s') tk (if ct' = 32 then nI nr' else nu) (if tk = 2 then wv else wd) tx (nI C.length) pi (nI st.length) (nI om) iw, ⟨tk, _, _, tx, pi, rfl, ?_, fun z => if_pos z, e4, e5, e6⟩, ?_⟩
    · obtain ⟨g1, g2, g3, g4, g5, g6, g7⟩ := F
      refine ⟨g1, g2, g3, g4, g5, ?_, g7⟩
      intro z
      rw [if_pos z]
      exact g6 z
    · rw [e1]
      exact hM _ _ _ _ _ _ _ _ _ _
theorem CM_emit {S : CS} {n s0 : Nat} {M : MS} {b : Nat → Nat} {t : Nat} {tx0 : Nat → Int32} {ct s e nr : Nat} {C : List (Nat × Nat)} {st : List Nat} {om : Nat} {iw : Int32} {m : MS} (H : HX S M n b t s0) (h : CM M b t tx0 ct s e nr C st om iw m) (hC : C.length ≤ 303) (k v : Nat) : ∃ m', CM M b t tx0 ct s e nr (C ++ [(k, v)]) st om iw m' ∧ rv (wM_emit (nI k) (nI v) m) m' := by
  obtain ⟨tk, nu, wd, tx, pi, e1, e2, e3, e4, e5, e6⟩ := h
  have ht := H.2.1
  refine ⟨mA M (nI e) (nI s) tk nu wd (upd (upd tx (705 * t + 97 + 2 * C.length) (nI k)) (705 * t + 98 + 2 * C.length) (nI v)) (nI (C ++ [(k, v)]).length) pi (nI st.length) (nI om) iw, ⟨tk, nu, wd, _, pi, rfl, e2, e3, CodeM_add e4 k v, e5, ?_⟩, ?_⟩
  · intro j hj
    rw [upd_ne _ _ (by omega), upd_ne _ _ (by omega)]
    exact e6 j hj
  · intro post hp
    rw [List.length_append] at hp
    unfold wM_emit
    simp only [p_all]
    rw [e1, mA_text0, mA_written, H.2.2.2.2.2, mA_texts, mA_s_texts, mA_text0, mA_written, mA_texts, mA_s_texts, mA_written, mA_s_written, H.2.2.2.2.2, nI_1 C.length, show nI (705 * t) + 97 = nI (705 * t + 97) from nI_al 97 _, nI_lm 2 C.length, nI_add, nI_1, nI_clamp (by omega), nI_clamp (by omega), show 705 * t + 97 + 2 * C.length + 1 = 705 * t + 98 + 2 * C.length by omega]
    exact ⟨vp_in_nI (by omega) (by decide), vp_in_nI (by omega) (by decide), hp⟩
/-! the pile's questions -/
def rkN (x : Nat) : Nat := if 40 ≤ x then 0 else if x = 22 then 1 else if x = 21 then 2 else if x = 20 then 3 else if 10 ≤ x then 4 else if x = 5 ∨ x = 2 ∨ x = 4 then 7 else if x < 8 then 5 else 6
def rkI (x : Int32) : Int32 := if x < 40 then (if x = 22 then 1 else if x = 21 then 2 else if x = 20 then 3 else if x < 10 then (if x = 5 then 7 else if x = 2 then 7 else if x = 4 then 7 else if x < 8 then 5 else 6) else 4) else 0
theorem rk_tab : ∀ x, x < 50 → rkI (nI x) = nI (rkN x) := by decide +kernel
theorem m_rankI (x : Int32) (S : MS) (post : Int32 → MS → Prop) : wM_rank x S post = post (rkI x) S := by
  unfold wM_rank rkI
  by_cases c1 : x < 40
  · rw [p_T c1, if_pos c1]
    by_cases c2 : x = 22
    · rw [p_T c2, if_pos c2]
    · rw [p_F c2, if_neg c2]
      by_cases c3 : x = 21
      · rw [p_T c3, if_pos c3]
      · rw [p_F c3, if_neg c3]
        by_cases c4 : x = 20
        · rw [p_T c4, if_pos c4]
        · rw [p_F c4, if_neg c4]
          by_cases c5 : x < 10
          · rw [p_T c5, if_pos c5]
            by_cases c6 : x = 5
            · rw [p_T c6, if_pos c6]
            · rw [p_F c6, if_neg c6]
              by_cases c7 : x = 2
              · rw [p_T c7, if_pos c7]
              · rw [p_F c7, if_neg c7]
                by_cases c8 : x = 4
                · rw [p_T c8, if_pos c8]
                · rw [p_F c8, if_neg c8]
                  by_cases c9 : x < 8
                  · rw [p_T c9, if_pos c9]
                  · rw [p_F c9, if_neg c9]
          · rw [p_F c5, if_neg c5]
  · rw [p_F c1, if_neg c1]
theorem m_rank {x : Nat} (hx : x < 50) (S : MS) (post : Int32 → MS → Prop) : wM_rank (nI x) S post = post (nI (rkN x)) S := by
  rw [m_rankI, rk_tab x hx]
theorem rk_7 (x : Nat) : rkN x ≤ 7 := by
  unfold rkN
  repeat (first | (split; decide) | decide)
def opL : List Nat → Int32
  | [] => -1
  | x :: l => if 40 ≤ x then nI l.length else opL l
def opV : List Nat → Int32
  | [] => -1
  | x :: l => if 40 ≤ x then nI x else opV l
theorem m_openAt {S : MS} {pi : Nat → Int32} (e : ms_pile S = pi) : ∀ (l : List Nat), l.length ≤ 160 → PR l pi → ∀ post : Int32 → MS → Prop, post (opL l) S → wM_openAt_7 post (l.length + 1) (nI l.length + (-1)) S := by
  intro l
  induction l with
  | nil =>
    intro _ _ post hp
    rw [wM_openAt_7]
    exact p_yes (by decide) hp
  | cons x l ih =>
    intro hl h post hp
    have hl' : l.length + 1 ≤ 160 := hl
    have hx := h.2.1
    rw [show (x :: l).length = l.length + 1 from rfl, nI_m1, wM_openAt_7, e, nI_clamp (by omega), h.1]
    have e40 : ((40 : Int32) ≤ nI x) = (40 ≤ x) := propext (nI_leI (a := 40) (by decide) (by omega))
    rw [e40]
    have hp' : post (if 40 ≤ x then nI l.length else opL l) S := hp
    refine p_no (nI_pos (by omega)) ⟨vp_in_nI (by omega) (by decide), p_two (fun c => ?_) (fun c => ?_)⟩
    · rw [if_pos c] at hp'
      exact hp'
    · rw [if_neg c] at hp'
      exact ih (by omega) h.2.2 post hp'
theorem opL_V {pi : Nat → Int32} : ∀ (l : List Nat), l.length ≤ 160 → PR l pi → (0 ≤ opL l ∧ vp_in (opL l) 160 ∧ pi (opL l).toNatClampNeg = opV l) ∨ (¬ 0 ≤ opL l ∧ opV l = -1) := by
  intro l
  induction l with
  | nil => intro _ _; exact Or.inr ⟨by decide, rfl⟩
  | cons x l ih =>
    intro hl h
    have hl' : l.length + 1 ≤ 160 := hl
    by_cases c : 40 ≤ x
    · have e1 : opL (x :: l) = nI l.length := if_pos c
      have e2 : opV (x :: l) = nI x := if_pos c
      rw [e1, e2, nI_clamp (by omega)]
      exact Or.inl ⟨nI_pos' (by omega), vp_in_nI (by omega) (by decide), h.1⟩
    · have e1 : opL (x :: l) = opL l := if_neg c
      have e2 : opV (x :: l) = opV l := if_neg c
      rw [e1, e2]
      exact ih (by omega) h.2.2
theorem m_openNow {M : MS} {b : Nat → Nat} {t : Nat} {tx0 : Nat → Int32} {ct s e nr : Nat} {C : List (Nat × Nat)} {st : List Nat} {om : Nat} {iw : Int32} {m : MS} (h : CM M b t tx0 ct s e nr C st om iw m) (hl : st.length ≤ 160) (post : Int32 → MS → Prop) (hp : post (opV st) m) : wM_openNow m post := by
  obtain ⟨tk, wd, F, e1, e2, e3, e4, e5, e6, e7, e8, e9, e10⟩ := CM_tok h
  have oa : ∀ post2 : Int32 → MS → Prop, post2 (opL st) m → wM_openAt m post2 := by
    intro post2 h2
    unfold wM_openAt
    rw [e5, Int32.sub_eq_add_neg]
    exact ⟨st.length + 1, m_openAt rfl st hl e10 post2 h2⟩
  unfold wM_openNow
  refine oa _ ?_
  rcases opL_V st hl e10 with ⟨q1, q2, q3⟩ | ⟨q1, q2⟩
  · refine p_yes q1 (oa _ ⟨q2, ?_⟩)
    rw [q3]
    exact hp
  · rw [q2] at hp
    exact p_no q1 hp
theorem m_openAt2 {M : MS} {b : Nat → Nat} {t : Nat} {tx0 : Nat → Int32} {ct s e nr : Nat} {C : List (Nat × Nat)} {st : List Nat} {om : Nat} {iw : Int32} {m : MS} (h : CM M b t tx0 ct s e nr C st om iw m) (hl : st.length ≤ 160) (post : Int32 → MS → Prop) (hp : post (opL st) m) : wM_openAt m post := by
  obtain ⟨tk, wd, F, e1, e2, e3, e4, e5, e6, e7, e8, e9, e10⟩ := CM_tok h
  unfold wM_openAt
  rw [e5, Int32.sub_eq_add_neg]
  exact ⟨st.length + 1, m_openAt rfl st hl e10 post hp⟩
def cmB : List Nat → Bool
  | [] => false
  | x :: l => if rkN x ≤ 4 then rkN x == 4 else cmB l
theorem m_cmp7 {S : MS} {pi : Nat → Int32} (e : ms_pile S = pi) : ∀ (l : List Nat), l.length ≤ 160 → PR l pi → ∀ post : Int32 → MS → Prop, post (if cmB l = true then 1 else 0) S → wM_isCompared_7 post (l.length + 1) (nI l.length + (-1)) S := by
  intro l
  induction l with
  | nil =>
    intro _ _ post hp
    rw [wM_isCompared_7]
    refine p_yes (by decide) ?_
    unfold wM_isCompared_30
    exact p_yes (by decide) hp
  | cons x l ih =>
    intro hl h post hp
    have hl' : l.length + 1 ≤ 160 := hl
    have hx := h.2.1
    have r7 := rk_7 x
    rw [show (x :: l).length = l.length + 1 from rfl, nI_m1, wM_isCompared_7, e, nI_clamp (by omega), h.1, m_rank hx]
    have e4 : (nI (rkN x) ≤ 4) = (rkN x ≤ 4) := propext (nI_leI (b := 4) (by omega) (by decide))
    rw [e4]
    have hp' : post (if (if rkN x ≤ 4 then rkN x == 4 else cmB l) = true then 1 else 0) S := hp
    refine p_no (nI_pos (by omega)) ⟨vp_in_nI (by omega) (by decide), p_two (fun c => ?_) (fun c => ?_)⟩
    · rw [if_pos c] at hp'
      unfold wM_isCompared_30
      rw [e, nI_clamp (by omega), h.1, m_rank hx]
      refine p_no (nI_pos (by omega)) ⟨vp_in_nI (by omega) (by decide), ?_⟩
      have e5 : (nI (rkN x) = 4) = (rkN x = 4) := propext (nI_eq (b := 4) (by omega) (by decide))
      rw [e5]
      refine p_two (fun q => ?_) (fun q => ?_)
      · rw [q] at hp'
        exact hp'
      · rw [beq_false_of_ne q] at hp'
        exact hp'
    · rw [if_neg c] at hp'
      exact ih (by omega) h.2.2 post hp'
theorem m_isCompared {M : MS} {b : Nat → Nat} {t : Nat} {tx0 : Nat → Int32} {ct s e nr : Nat} {C : List (Nat × Nat)} {st : List Nat} {om : Nat} {iw : Int32} {m : MS} (h : CM M b t tx0 ct s e nr C st om iw m) (hl : st.length ≤ 160) (post : Int32 → MS → Prop) (hp : post (if cmB st = true then 1 else 0) m) : wM_isCompared m post := by
  obtain ⟨tk, wd, F, e1, e2, e3, e4, e5, e6, e7, e8, e9, e10⟩ := CM_tok h
  unfold wM_isCompared
  rw [e5, Int32.sub_eq_add_neg]
  exact ⟨st.length + 1, m_cmp7 rfl st hl e10 post hp⟩
/-- whether something is asked from here on -/
def askA : List Nat → Bool
  | [] => false
  | x :: l => decide (opV (x :: l) = 43) && (decide (40 ≤ x) || (decide (1 ≤ rkN x) && decide (rkN x ≤ 3)))
theorem m_isAskAhead {M : MS} {b : Nat → Nat} {t : Nat} {tx0 : Nat → Int32} {ct s e nr : Nat} {C : List (Nat × Nat)} {st : List Nat} {om : Nat} {iw : Int32} {m : MS} (h : CM M b t tx0 ct s e nr C st om iw m) (hl : st.length ≤ 160) (post : Int32 → MS → Prop) (hp : post (if askA st = true then 1 else 0) m) : wM_isAskAhead m post := by
  obtain ⟨tk, wd, F, e1, e2, e3, e4, e5, e6, e7, e8, e9, e10⟩ := CM_tok h
  unfold wM_isAskAhead
  refine m_openNow h hl _ ?_
  cases st with
  | nil => exact p_no (by decide) hp
  | cons x l =>
    have hl' : l.length + 1 ≤ 160 := hl
    have hx := e10.2.1
    have r7 := rk_7 x
    have hp' : post (if (decide (opV (x :: l) = 43) && (decide (40 ≤ x) || (decide (1 ≤ rkN x) && decide (rkN x ≤ 3)))) = true then 1 else 0) m := hp
    rw [e5, show (x :: l).length = l.length + 1 from rfl, nI_pred, nI_clamp (by omega), e10.1]
    have e40 : ((40 : Int32) ≤ nI x) = (40 ≤ x) := propext (nI_leI (a := 40) (by decide) (by omega))
    rw [e40]
    refine p_two (fun c => ?_) (fun c => ?_)
    · rw [decide_eq_true c, Bool.true_and] at hp'
      refine ⟨vp_in_nI (by omega) (by decide), p_two (fun q => ?_) (fun q => ⟨vp_in_nI (by omega) (by decide), ?_⟩)⟩
      · rw [decide_eq_true q, Bool.true_or] at hp'
        exact hp'
      · rw [decide_eq_false q, Bool.false_or] at hp'
        rw [m_rank hx, m_isIn]
        have l1 : ((1 : Int32) ≤ nI (rkN x)) = (1 ≤ rkN x) := propext (nI_leI (a := 1) (by decide) (by omega))
        have l3 : (nI (rkN x) ≤ 3) = (rkN x ≤ 3) := propext (nI_leI (b := 3) (by omega) (by decide))
        rw [p_b0, l1, l3]
        by_cases z : 1 ≤ rkN x ∧ rkN x ≤ 3
        · rw [decide_eq_true z.1, decide_eq_true z.2] at hp'
          exact p_val z hp'
        · refine p_yes z ?_
          have : (decide (1 ≤ rkN x) && decide (rkN x ≤ 3)) = false := by
            by_cases z1 : 1 ≤ rkN x
            · rw [decide_eq_false (fun z2 => z ⟨z1, z2⟩), Bool.and_false]
            · rw [decide_eq_false z1, Bool.false_and]
          rw [this] at hp'
          exact hp'
    · rw [decide_eq_false c, Bool.false_and] at hp'
      exact hp' 
