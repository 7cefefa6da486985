/-! PURE LAYER: a text's record as both keep it; the start and the end of a reading -/
theorem soN_le : ∀ so, so < 10 → soN so ≤ 3 := by decide +kernel
theorem trDeed_ext {n : Nat} {x x' cl cl' : Nat → Int32} (h : trDeed n x cl) (e : ∀ k, k < 1 + 4 * n → x' k = x k) (g : ∀ k, k < 4 * n → cl' k = cl k) : trDeed n x' cl' := by
  intro k hk
  obtain ⟨so, a1, a2, a3, a4, a5⟩ := h k hk
  have s3 := soN_le so a1
  refine ⟨so, a1, by rw [e _ (by omega)]; exact a2, by rw [g _ (by omega)]; exact a3, ?_, by rw [e _ (by omega)]; exact a5⟩
  intro j hj
  rw [g _ (by omega), e _ (by omega)]
  exact a4 j hj
theorem LW_ext {n : Nat} {x x' bd : Nat → Int32} {C : List (Nat × Nat)} {o s : Nat} (h : LW n x bd C o s) (e : ∀ k, k < 1 + 4 * n → x' k = x k) : LW n x' bd C o s := by
  rcases h with ⟨a1, a2, a3⟩ | ⟨a1, k, i0, L, a2, a3, a4, a5, a6, a7⟩
  · refine Or.inl ⟨a1, ?_, a3⟩
    intro k hk
    rw [e _ (by omega)]
    exact a2 k hk
  · refine Or.inr ⟨a1, k, i0, L, a2, by rw [e _ (by omega)]; exact a3, ?_, by rw [e _ (by omega)]; exact a5, by rw [e _ (by omega)]; exact a6, a7⟩
    intro k' hk'
    rw [e _ (by omega)]
    exact a4 k' hk'
theorem trLaw_ext {n : Nat} {x x' bd cd : Nat → Int32} {cl s : Nat} (h : trLaw n x bd cd cl s) (hn : n ≤ 24) (hcl : cl ≤ 300) (e : ∀ k, k < 705 → x' k = x k) : trLaw n x' bd cd cl s := by
  rcases h with ⟨a1, a3⟩ | ⟨k, i0, L, a2, a3, a4, a5, a6, a7, a8, a9, a10, a11, a12⟩
  · refine Or.inl ⟨?_, a3⟩
    intro k hk
    rw [e _ (by omega)]
    exact a1 k hk
  · refine Or.inr ⟨k, i0, L, a2, by rw [e _ (by omega)]; exact a3, ?_, by rw [e _ (by omega)]; exact a5, by rw [e _ (by omega)]; exact a6, a7, a8, a9, a10, ?_, a12⟩
    · intro k' hk'
      rw [e _ (by omega)]
      exact a4 k' hk'
    · intro j hj
      obtain ⟨q, q1, q2, q3, q4⟩ := a11 j hj
      exact ⟨q, q1, q2, by rw [e _ (by omega)]; exact q3, by rw [e _ (by omega)]; exact q4⟩
theorem TR_ext {B : TB} {x x' : Nat → Int32} (h : TR B x) (e : ∀ k, k < 705 → x' k = x k) : TR B x' := by
  obtain ⟨n, a1, a2, a3, a4, a5, a6, a7, a8⟩ := h
  exact ⟨n, a1, a2, by rw [e _ (by omega)]; exact a3, a4, a5, a6, trDeed_ext a7 (fun k hk => e k (by omega)) (fun _ _ => rfl), fun s hs => trLaw_ext (a8 s hs) a1 a6 e⟩
/-- a text read to its end is what both keep -/
theorem TI_TR {S : CS} {M : MS} {tx1 tx : Nat → Int32} {t : Nat} {C : List (Nat × Nat)} {cc o : Nat} {cd : Nat → Int32} (h : TI S M tx1 t C cc o) (hC : C.length ≤ 300) (hc : CodeC C cd) (hm : CodeM t C tx) (hx : ∀ k, k < 705 * t + 97 → tx k = tx1 k) {g1 g2 : Nat → Int32} (h1 : ∀ j, j < 4 * cc → g1 j = cx_r_clauses S j) (h2 : ∀ j, j < C.length → g2 j = cd j) (ad : Nat × Nat × Nat) : TR (nI cc, ad, (4 * cc, g1), (C.length, g2), (6, cx_r_bounds S)) (fun k => tx (705 * t + k)) := by
  obtain ⟨i1, i2, i3, i4, i5, i6, i7, i8⟩ := h
  have ee : ∀ k, k < 1 + 4 * cc → (fun k => tx (705 * t + k)) k = (fun k => tx1 (705 * t + k)) k := fun k hk => hx _ (by omega)
  refine ⟨cc, i2, rfl, (hx (705 * t) (by omega)).trans i3, rfl, rfl, hC, trDeed_ext i7 ee h1, ?_⟩
  intro s hs
  have hc2 : CodeC C g2 := by
    intro j q hj
    have hl : j < C.length := by
      rcases Nat.lt_or_ge j C.length with z | z
      · exact z
      · rw [List.getElem?_eq_none z] at hj
        cases hj
    rw [h2 j hl]
    exact hc j q hj
  exact LW_tr (LW_ext (i8 s hs) ee) hc2 hm (fun _ => rfl)
/-- the start of a reading -/
def bgC (cs : CS) : CS := cx_set_r_clauses (cx_set_r_bounds (cx_set_r_clauseCount cs 0) (k_fill 6 (cx_r_bounds cs) 0)) (k_fill 96 (cx_r_clauses cs) 0)
theorem bgC_f (cs : CS) : fS cs (bgC cs) ∧ cx_r_length (bgC cs) = cx_r_length cs ∧ cx_r_tape (bgC cs) = cx_r_tape cs ∧ cx_r_clauseCount (bgC cs) = 0 ∧ cx_r_bounds (bgC cs) = k_fill 6 (cx_r_bounds cs) 0 := by
  refine ⟨⟨?_, ?_, ?_⟩, ?_, ?_, ?_, ?_⟩ <;> simp only [bgC, cx_set_r_clauses, cx_set_r_bounds, cx_set_r_clauseCount, cx_r_length, cx_r_tape, cx_r_clauseCount, cx_r_bounds]
theorem bgC_w (cs : CS) (post : Option Nat → CS → Prop) (h : wC_X6_advance (cA (bgC cs) (cx_r_token cs) (cx_r_start cs) 0 (cx_r_number cs) (cx_r_code cs) 0 0 0) (fun S_9 => ∃ k_ : Nat, wC_X6_readTape_47 post k_ 0 S_9)) : wC_X6_readTape cs post := by
  unfold wC_X6_readTape
  intro S1 e1 S2 e2 S3 e3 S4 e4 S5 e5 S6 e6 S7 e7
  have e : S7 = cA (bgC cs) (cx_r_token cs) (cx_r_start cs) 0 (cx_r_number cs) (cx_r_code cs) 0 0 0 := by
    rw [e7, e6, e5, e4, e3, e2, e1]
    simp only [cA, bgC, cx_set_r_token, cx_set_r_start, cx_set_r_place, cx_set_r_number, cx_set_r_code, cx_set_r_codeLength, cx_set_r_open, cx_set_r_fault, cx_set_r_clauses, cx_set_r_bounds, cx_set_r_clauseCount, cx_r_token, cx_r_start, cx_r_number, cx_r_code, cx_r_bounds, cx_r_clauses]
  rw [e]
  exact h
def bgM (ms : MS) (t : Nat) : MS := ms_set_once (ms_set_text0 ms (nI (705 * t))) 0
theorem bgM_f (ms : MS) (t : Nat) : ms_a (bgM ms t) = ms_a ms ∧ ms_image (bgM ms t) = ms_image ms ∧ ms_tape (bgM ms t) = ms_tape ms ∧ ms_taped (bgM ms t) = ms_taped ms ∧ ms_text0 (bgM ms t) = nI (705 * t) ∧ ms_once (bgM ms t) = 0 := by
  refine ⟨?_, ?_, ?_, ?_, ?_, ?_⟩ <;> simp only [bgM, ms_set_once, ms_set_text0, ms_a, ms_image, ms_tape, ms_taped, ms_text0, ms_once]
theorem bgM_w {ms : MS} {t : Nat} (ht : t < 4) (ea : ms_a ms 2 = nI t) (post : Int32 → MS → Prop) (h : wM_nextToken (mA (bgM ms t) 0 (ms_place ms) (ms_token ms) (ms_number ms) (ms_word ms) (upd (ms_texts ms) (705 * t) 0) 0 (ms_pile ms) (ms_piled ms) (ms_opens ms) (ms_isWhole ms)) (fun S_7 => ∃ k_ : Nat, wM_readText_43 post k_ S_7)) : wM_readText ms post := by
  unfold wM_readText
  rw [ea, nI_lm 705 t]
  intro S1 e1
  have x1 : ms_text0 S1 = nI (705 * t) := by
    rw [e1]
    simp only [ms_set_text0, ms_text0]
  rw [x1, nI_clamp (by omega)]
  refine ⟨vp_in_nI (by omega) (by decide), ?_⟩
  intro S2 e2 S3 e3 S4 e4 S5 e5
  have e : S5 = mA (bgM ms t) 0 (ms_place ms) (ms_token ms) (ms_number ms) (ms_word ms) (upd (ms_texts ms) (705 * t) 0) 0 (ms_pile ms) (ms_piled ms) (ms_opens ms) (ms_isWhole ms) := by
    rw [e5, e4, e3, e2, e1]
    simp only [mA, bgM, ms_set_at, ms_set_place, ms_set_token, ms_set_number, ms_set_word, ms_set_texts, ms_set_written, ms_set_pile, ms_set_piled, ms_set_opens, ms_set_isWhole, ms_set_once, ms_set_text0, ms_place, ms_token, ms_number, ms_word, ms_texts, ms_pile, ms_piled, ms_opens, ms_isWhole]
  rw [e]
  exact h
/-- the end of a reading -/
def fnC (c : CS) (f p : Int32) : CS := cx_set_r_length (cx_set_r_lastPlace (cx_set_r_lastFault c f) p) 0
theorem fnC_f (c : CS) (f p : Int32) : (fnC c f p).1 = c.1 ∧ (fnC c f p).2.1 = c.2.1 ∧ (fnC c f p).2.2.2 = c.2.2.2 ∧ (fnC c f p).2.2.1.1 = 0 ∧ (fnC c f p).2.2.1.2.1 = f ∧ (fnC c f p).2.2.1.2.2.1 = p ∧ cx_r_clauseCount (fnC c f p) = cx_r_clauseCount c ∧ cx_r_codeLength (fnC c f p) = cx_r_codeLength c ∧ cx_r_code (fnC c f p) = cx_r_code c ∧ cx_r_clauses (fnC c f p) = cx_r_clauses c ∧ cx_r_bounds (fnC c f p) = cx_r_bounds c ∧ cx_r_fault (fnC c f p) = cx_r_fault c := by
  refine ⟨?_, ?_, ?_, ?_, ?_, ?_, ?_, ?_, ?_, ?_, ?_, ?_⟩ <;> simp only [fnC, cx_set_r_length, cx_set_r_lastPlace, cx_set_r_lastFault, cx_r_clauseCount, cx_r_codeLength, cx_r_code, cx_r_clauses, cx_r_bounds, cx_r_fault]
theorem fnC_no {c : CS} {f : Nat} (hf : 0 < f ∧ f < 9) (e : cx_r_fault c = nI f) (post : Option Nat → CS → Prop) (h : post none (fnC c (nI f) (cx_r_start c))) : wC_X6_readTape_79 post c := by
  have nf : ¬ nI f = 0 := fun y => absurd ((nI_eq (b := 0) (by omega) (by decide)).mp y) (by omega)
  unfold wC_X6_readTape_79
  intro S1 e1
  have x1 : cx_r_fault S1 = nI f := by
    rw [e1, ← e]
    simp only [cx_set_r_lastFault, cx_r_fault]
  have x2 : cx_r_start S1 = cx_r_start c := by
    rw [e1]
    simp only [cx_set_r_lastFault, cx_r_start]
  rw [x1, x2]
  refine p_no nf ?_
  unfold wC_X6_readTape_103
  intro S2 e2 S3 e3
  have x3 : S3 = fnC c (nI f) (cx_r_start c) := by
    rw [e3, e2, e1, e]
    rfl
  rw [x3, (fnC_f _ _ _).2.2.2.2.2.2.2.2.2.2.2, e]
  exact p_no nf h
theorem fnC_yes {c : CS} {cc k2 : Nat} (e : cx_r_fault c = 0) (hcc : cc ≤ 24) (ec : cx_r_clauseCount c = nI cc) (hk : k2 ≤ 300) (el : cx_r_codeLength c = nI k2) (post : Option Nat → CS → Prop) (h : ∀ (t a1 a2 a3 : Nat) (g1 g2 : Nat → Int32), (∀ j, j < 4 * cc → g1 j = cx_r_clauses c j) → (∀ j, j < k2 → g2 j = cx_r_code c j) → post (some t) (cx_set_px (fnC c 0 (-1)) (cx_px c ++ [(t, (nI cc, (a1, a2, a3), (4 * cc, g1), (k2, g2), (6, cx_r_bounds c)))]))) : wC_X6_readTape_79 post c := by
  unfold wC_X6_readTape_79
  intro S1 e1
  have x1 : cx_r_fault S1 = 0 := by
    rw [e1, ← e]
    simp only [cx_set_r_lastFault, cx_r_fault]
  rw [x1]
  refine p_yes rfl ?_
  unfold wC_X6_readTape_103
  intro S2 e2 S3 e3
  have x3 : S3 = fnC c 0 (-1) := by
    rw [e3, e2, e1, e]
    rfl
  obtain ⟨f1, f2, f3, f4, f5, f6, f7, f8, f9, f10, f11, f12⟩ := fnC_f c 0 (-1)
  rw [x3, f12, e, f7, ec, nI_ml 4 cc]
  refine p_yes rfl ?_
  unfold wC_X11_held
  refine p_yes (nI_pos' (by omega)) (p_yes (nI_le (b := 96) (by omega) (by decide)) ?_)
  dsimp only
  rw [f8, f9, f10, f11, el, f7, ec]
  refine ⟨4 * cc, by omega, by rw [Nat.mul_comm], k2, hk, ?_, ?_⟩
  · unfold k_held
    rw [if_neg (nI_pos (by omega))]
    exact if_neg (nI_nlt (a := 300) (by omega) (by decide))
  · intro t a1 a2 a3 g1 g2 h1 h2 S9 e9
    have : cx_px (fnC c 0 (-1)) = cx_px c := congrArg (fun z => z.2) f3
    rw [this] at e9
    rw [e9]
    exact h t a1 a2 a3 g1 g2 h1 h2
