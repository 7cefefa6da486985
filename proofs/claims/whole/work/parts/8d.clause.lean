/-! PURE LAYER: both readers in step: a clause -/
def fMM (M M' : MS) : Prop := ms_a M' = ms_a M ∧ ms_image M' = ms_image M ∧ ms_tape M' = ms_tape M ∧ ms_taped M' = ms_taped M ∧ ms_fault M' = ms_fault M ∧ ms_faultPlace M' = ms_faultPlace M ∧ ms_text0 M' = ms_text0 M
theorem fM_so (M : MS) (z : Int32) : fMM M (ms_set_sort0 M z) := by
  refine ⟨?_, ?_, ?_, ?_, ?_, ?_, ?_⟩ <;> simp only [ms_set_sort0, ms_a, ms_image, ms_tape, ms_taped, ms_fault, ms_faultPlace, ms_text0]
theorem fM_on (M : MS) (z y : Int32) : fMM M (ms_set_sort0 (ms_set_once M y) z) := by
  refine ⟨?_, ?_, ?_, ?_, ?_, ?_, ?_⟩ <;> simp only [ms_set_sort0, ms_set_once, ms_a, ms_image, ms_tape, ms_taped, ms_fault, ms_faultPlace, ms_text0]
theorem TP_on {S : CS} {M : MS} {n : Nat} {b : Nat → Nat} (H : TP S M n b) (z : Int32) : TP S (ms_set_once M z) n b := by
  obtain ⟨q1, q2, q3, q4⟩ := H
  refine ⟨q1, q2, Eq.trans (show ms_taped (ms_set_once M z) = ms_taped M by simp only [ms_set_once, ms_taped]) q3, ?_⟩
  intro i hi'
  have := q4 i hi'
  exact ⟨this.1, Eq.trans (show ms_tape (ms_set_once M z) i = ms_tape M i by simp only [ms_set_once, ms_tape]) this.2.1, this.2.2⟩
/-- the text's record so far -/
def TI (S : CS) (M : MS) (tx0 : Nat → Int32) (t : Nat) (C : List (Nat × Nat)) (cc o : Nat) : Prop := cx_r_clauseCount S = nI cc ∧ cc ≤ 24 ∧ tx0 (705 * t) = nI cc ∧ ms_text0 M = nI (705 * t) ∧ ms_once M = nI o ∧ o < 8 ∧ trDeed cc (fun k => tx0 (705 * t + k)) (cx_r_clauses S) ∧ ∀ s, s < 3 → LW cc (fun k => tx0 (705 * t + k)) (cx_r_bounds S) C o s
theorem clause_both {S : CS} {M : MS} {n : Nat} {b : Nat → Nat} {t : Nat} (H : TP S M n b) {tx0 : Nat → Int32} {ct s e nc nr : Nat} {C : List (Nat × Nat)} {c : CS} {m : MS} (hT : TN n ct s e nc nr) (hc : CC S ct s e nc C 0 c) (hm : KM M b t tx0 ct s e nr C m) {cc o : Nat} (ht : t < 4) (hI : TI S M tx0 t C cc o) (hlen : C.length ≤ s) : (∃ (ct' s' e' nc' nr' : Nat) (S' : CS) (M' : MS) (tx1 : Nat → Int32) (E : List (Nat × Nat)) (o' : Nat) (c' : CS) (m' : MS), e ≤ s' ∧ TN n ct' s' e' nc' nr' ∧ fS S S' ∧ fMM M M' ∧ TP S' M' n b ∧ TI S' M' tx1 t (C ++ E) (cc + 1) o' ∧ CC S' ct' s' e' nc' (C ++ E) 0 c' ∧ KM M' b t tx1 ct' s' e' nr' (C ++ E) m' ∧ (C ++ E).length ≤ s' ∧ (∀ k, k < 705 * t → tx1 k = tx0 k) ∧ rv (wC_X6_readClause c) c' ∧ rt (wM_clause m) 0 m') ∨ (∃ M', fMM M M' ∧ GF S M' t tx0 (wC_X6_readClause c) (wM_clause m)) := by
  obtain ⟨i1, i2, i3, i4, i5, i6, i7, i8⟩ := hI
  obtain ⟨t1, t2, t3, t4, t5, t6⟩ := CC_token hc
  obtain ⟨q1, q2, q3⟩ := k_end hm
  have h45 := hT.2.2.2.2
  have fM0 : fMM M M := ⟨rfl, rfl, rfl, rfl, rfl, rfl, rfl⟩
  have fS0 : fS S S := ⟨rfl, rfl, rfl⟩
  have bad : ∀ f, (0 < f ∧ f < 9) → (∀ post, wC_X6_fail (nI f) c post → wC_X6_readClause c post) → (∀ post, post (nI f) m → wM_clause m post) → (∃ M', fMM M M' ∧ GF S M' t tx0 (wC_X6_readClause c) (wM_clause m)) := by
    intro f hf hW hV
    obtain ⟨c', f1, f2⟩ := CC_fail hc f
    exact ⟨M, fM0, f, s, S, tx0, c', m, hf, fS0, f1, KM_FM hm, fun _ _ => rfl, fun post hp => hW post (f2 post hp), fun post hp => hV post hp⟩
  by_cases isc : isC ct
  · obtain ⟨so, s1, s2, s3, s4, s5⟩ := so_tab ct h45 isc
    have cc24 : (nI cc = 24) = (cc = 24) := propext (nI_eq (b := 24) (by omega) (by decide))
    have ccc : cx_r_clauseCount c = nI cc := by
      obtain ⟨nu, cd, e1, e2, e3⟩ := hc
      rw [e1, cA_clauseCount2]
      exact i1
    have l2 : ((2 : Int32) < nI so) = (2 < so) := propext (nI_ltI (a := 2) (by decide) (by omega))
    have V29 : ∀ post : Int32 → MS → Prop, ((cc = 24 → post 6 m) ∧ (¬ cc = 24 → ((2 < so → wM_clause_65 post (nI so) (nI cc) m) ∧ (¬ 2 < so → wM_clause_65 post (nI so) (nI cc) (ms_set_once m (nI o ||| k_shl 1 (nI so))))))) → wM_clause_29 post (nI so) m := by
      intro post h
      unfold wM_clause_29
      rw [q1, i4, nI_clamp (by omega), q3 _ (by omega), i3, cc24, l2, p_all, q2, i5]
      exact ⟨vp_in_nI (by omega) (by decide), h⟩
    have C53 : ¬ cc < 24 → ∀ post, wC_X6_fail 6 c post → wC_X6_readClause_53 post (nI ct) c := by
      intro z post h
      unfold wC_X6_readClause_53
      rw [ccc]
      exact p_no (fun q => z ((nI_ltI (b := 24) (by omega) (by decide)).mp q)) h
    by_cases law : so < 3
    · have hct := s5 law
      obtain ⟨x1, x2⟩ := bd_ix so law
      have bdc : cx_r_bounds c = cx_r_bounds S := by
        obtain ⟨nu, cd, e1, e2, e3⟩ := hc
        rw [e1, cA_bounds]
      have Wl : ∀ post : CS → Prop, ((cx_r_bounds S (2 * so + 1) ≤ 0 → wC_X6_readClause_53 post (nI ct) c) ∧ (¬ cx_r_bounds S (2 * so + 1) ≤ 0 → wC_X6_fail 4 c post)) → wC_X6_readClause c post := by
        intro post h
        unfold wC_X6_readClause
        rw [t1]
        refine c_begins h45 _ _ (fun _ => p_no (by decide) (c_isLaw h45 _ _ (fun _ => p_no (by decide) ?_) (fun z => absurd (s4.mp law) z))) (fun z => absurd isc z)
        rw [bdc, hct, x2, p_at (by decide) _ (by omega), ← hct]
        exact h
      have Vl : ∀ post : Int32 → MS → Prop, ((o.testBit so = true → post 4 m) ∧ (¬ o.testBit so = true → wM_clause_29 post (nI so) m)) → wM_clause m post := by
        intro post h
        unfold wM_clause
        refine k_sortOf hm _ ?_
        have hb := on_has o i6 so law
        rw [s2, m_has, q2, i5, l2]
        refine p_yes (nI_pos' (by omega)) (p_no (by omega) ?_)
        by_cases z : o.testBit so = true
        · rw [if_pos (hb.mpr z)]
          exact p_no (by decide) (h.1 z)
        · rw [if_neg (fun y => z (hb.mp y))]
          exact p_yes rfl (h.2 z)
      rcases i8 so law with ⟨w1, w2, w3, w4⟩ | ⟨w1, k, i0, L, w2, w3, w4, w5, w6, w7, w8, w9, w10, w11, w12⟩
      · have nb : ¬ o.testBit so = true := by
          rw [w1]
          decide
        have Wl' : ∀ post, wC_X6_readClause_53 post (nI ct) c → wC_X6_readClause c post := fun post h => Wl post (p_yes (by rw [w4]; decide) h)
        by_cases z24 : cc = 24
        · exact Or.inr (bad 6 (by decide) (fun post h => Wl' post (C53 (by omega) post h)) (fun post h => Vl post (p_no nb (V29 post (p_yes z24 h)))))
        · obtain ⟨o1, o2, o3⟩ := on_set o i6 so law
          have Vl' : ∀ post, wM_clause_65 post (nI so) (nI cc) (ms_set_once m (nI (o ||| 2 ^ so))) → wM_clause m post := fun post h => Vl post (p_no nb (V29 post (p_no z24 (p_no (by omega) (by rw [o1]; exact h)))))
          have hx1 : ms_text0 (ms_set_once M (nI (o ||| 2 ^ so))) = nI (705 * t) := Eq.trans (show _ = ms_text0 M by simp only [ms_set_once, ms_text0]) i4
          rcases lcl_both (TP_on H (nI (o ||| 2 ^ so))) hT hc (KM_once hm (nI (o ||| 2 ^ so))) law hct hlen ht hx1 i3 (by omega) i1 i7 with ⟨ct', s', e', nc', nr', S', tx1, E, c', m', b1, b2, b3, b4, b5, b6, b7, b8, b9, b10, b11, b12, b13, b14, b15, b16, b17, b18, b19, b20⟩ | G
          · refine Or.inl ⟨ct', s', e', nc', nr', S', _, tx1, E, o ||| 2 ^ so, c', m', b1, b2, b3, fM_on M _ _, b4, ⟨b5, by omega, b14, ?_, ?_, o2, b12, ?_⟩, b7, b8, b9, b13, fun post hp => Wl' post (b19 post hp), fun post hp => Vl' post (b20 post hp)⟩
            · exact Eq.trans (show _ = ms_text0 M by simp only [ms_set_once, ms_set_sort0, ms_text0]) i4
            · simp only [ms_set_once, ms_set_sort0, ms_once]
            · intro s' hs'
              by_cases es : s' = so
              · rw [es, b6]
                exact LW_new (i8 so law) w1 (fun k z1 z2 => b15 k z1 z2) b16 b17 b18 (by rw [upd_ne _ _ (by omega), upd_eq]) (upd_eq _ _ _) b10 b11 (by rw [o3 so law, decide_eq_true rfl, Bool.or_true])
              · refine LW_keep E (i8 s' hs') (fun k z1 z2 => b15 k z1 z2) ?_ ?_ ?_ ?_
                · show tx1 (705 * t + (1 + 4 * cc)) ≠ nI s'
                  rw [b16]
                  exact fun z => es ((nI_eq (by omega) (by omega)).mp z).symm
                · rw [b6, upd_ne _ _ (by omega), upd_ne _ _ (by omega)]
                · rw [b6, upd_ne _ _ (by omega), upd_ne _ _ (by omega)]
                · rw [o3 s' hs', decide_eq_false es, Bool.or_false]
          · obtain ⟨f, s', S', tx1, c', m', g1, g2, g3, g4, g5, g6, g7⟩ := G
            exact Or.inr ⟨_, fM_on M _ _, f, s', S', tx1, c', m', g1, g2, g3, g4, g5, fun post hp => Wl' post (g6 post hp), fun post hp => Vl' post (g7 post hp)⟩
      · have hC300 : C.length ≤ 300 := by
          have := hT.1
          have := hT.2.1
          have := H.1
          omega
        refine Or.inr (bad 4 (by decide) (fun post h => Wl post (p_no ?_ h)) (fun post h => Vl post (p_yes w1 h)))
        rw [w8]
        exact nI_nle (by omega) (by omega)
    · have nl : ¬ (12 ≤ ct ∧ ct ≤ 14) := fun z => law (s4.mpr z)
      have Wd : ∀ post : CS → Prop, wC_X6_readClause_53 post (nI ct) c → wC_X6_readClause c post := by
        intro post h
        unfold wC_X6_readClause
        rw [t1]
        exact c_begins h45 _ _ (fun _ => p_no (by decide) (c_isLaw h45 _ _ (fun z => absurd z nl) (fun _ => p_yes rfl h))) (fun z => absurd isc z)
      have Vd : ∀ post : Int32 → MS → Prop, wM_clause_29 post (nI so) m → wM_clause m post := by
        intro post h
        unfold wM_clause
        refine k_sortOf hm _ ?_
        rw [s2, l2]
        exact p_yes (nI_pos' (by omega)) (p_yes (by omega) h)
      by_cases z24 : cc = 24
      · exact Or.inr (bad 6 (by decide) (fun post h => Wd post (C53 (by omega) post h)) (fun post h => Vd post (V29 post (p_yes z24 h))))
      · have Vd' : ∀ post, wM_clause_65 post (nI so) (nI cc) m → wM_clause m post := fun post h => Vd post (V29 post (p_no z24 (p_yes (by omega) h)))
        rcases dcl_both H hT hc hm (so := so) (by omega) s3.symm nl ht i4 i3 (by omega) i1 i7 with ⟨ct', s', e', nc', nr', S', tx1, c', m', b1, b2, b3, b4, b5, b6, b7, b8, b9, b10, b11, b12, b13, b14, b15⟩ | G
        · have b21 := hT.1
          have eN : C ++ [] = C := List.append_nil C
          refine Or.inl ⟨ct', s', e', nc', nr', S', _, tx1, [], o, c', m', b1, b2, b3, fM_so M _, b4, ⟨b5, by omega, b11, ?_, ?_, i6, b9, ?_⟩, by rw [eN]; exact b7, by rw [eN]; exact b8, by rw [eN]; omega, b10, fun post hp => Wd post (b14 post hp), fun post hp => Vd' post (b15 post hp)⟩
          · exact Eq.trans (show _ = ms_text0 M by simp only [ms_set_sort0, ms_text0]) i4
          · exact Eq.trans (show _ = ms_once M by simp only [ms_set_sort0, ms_once]) i5
          · intro s' hs'
            refine LW_keep [] (i8 s' hs') (fun k z1 z2 => b12 k z1 z2) ?_ (by rw [b6]) (by rw [b6]) rfl
            show tx1 (705 * t + (1 + 4 * cc)) ≠ nI s'
            rw [b13]
            exact fun z => absurd ((nI_eq (by omega) (by omega)).mp z) (by omega)
        · obtain ⟨f, s', S', tx1, c', m', g1, g2, g3, g4, g5, g6, g7⟩ := G
          exact Or.inr ⟨_, fM_so M _, f, s', S', tx1, c', m', g1, g2, g3, g4, g5, fun post hp => Wd post (g6 post hp), fun post hp => Vd' post (g7 post hp)⟩
  · refine Or.inr (bad 1 (by decide) ?_ ?_)
    · intro post h
      unfold wC_X6_readClause
      rw [t1]
      exact c_begins h45 _ _ (fun z => absurd z isc) (fun _ => p_yes rfl h)
    · intro post h
      unfold wM_clause
      refine k_sortOf hm _ ?_
      rw [so_no isc]
      exact p_no (by decide) h
