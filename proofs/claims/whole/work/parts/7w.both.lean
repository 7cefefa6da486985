/-! PURE LAYER: both readers in step: a number or a name -/
theorem ty_num {s0 nr : Nat} {T : List Bool} (h : nr ≤ 9999) (hT : T.length < 64) : tyStep s0 (0, nr) T = some (true :: T) := by
  unfold tyStep
  rw [if_neg (by show ¬ 9999 < nr; omega), if_pos rfl, if_pos hT]
theorem ty_name {s0 k : Nat} {T : List Bool} (h : k ≤ 9999) (hk : nmOk s0 k = true) (hT : T.length < 64) : tyStep s0 (1, k) T = some (true :: T) := by
  unfold tyStep
  rw [if_neg (by show ¬ 9999 < k; omega), if_neg (by show ¬ 1 = 0; decide), if_pos rfl, if_pos ⟨hk, hT⟩]
/-- a number or a name -/
theorem one_leaf {S : CS} {M : MS} {n : Nat} {b : Nat → Nat} {t s0 : Nat} {tx0 : Nat → Int32} (H : HX S M n b t s0) {ct s e nc nr : Nat} {C : List (Nat × Nat)} {st : List Nat} {op : Nat} {c : CS} {m : MS} {d : Nat} (ho : op ≤ 8) (hT1 : TN n ct s e nc nr) (hc : CC S ct s e nc C op c) (hm : CM M b t tx0 ct s e nr C st op 0 m) (hlen : C.length + st.length ≤ s) {T : List Bool} (hT : T.length ≤ 5 * op + 2) (hst : st.length ≤ 6 * op + 2) (hask : ct = 29 → askA st = false) (hno : ct ≠ 20 ∧ ct ≠ 22 ∧ ct ≠ 23 ∧ ct ≠ 40 ∧ ct ≠ 43) : Ok1 S M n b t s0 tx0 e op C st op T (wC_rd (d + 1) 2 c) m ∨ OutF S M t tx0 (wC_rd (d + 1) 2 c) m := by
  obtain ⟨t1, t2, t3, t4, t5, t6⟩ := CC_token hc
  have h300 := TN_300 H hT1
  have h45 := hT1.2.2.2.2
  have W : ∀ post : CS → Prop, (ct = 32 → wC_X6_readPlainNumber c post) → (ct ≠ 32 → wC_X6_readName c post) → wC_rd (d + 1) 2 c post := fun post q1 q2 => one_at hc h45 d post (fun z => absurd z hno.1) (fun z => absurd z hno.2.1) (fun z => absurd z hno.2.2.1) q1 (fun z => absurd z hno.2.2.2.1) (fun z => absurd z hno.2.2.2.2) (fun _ _ _ z _ _ => q2 z)
  -- it is taken
  have good : ∀ x v, ct ≠ 31 → x < 2 → tyStep s0 (x, v) T = some (true :: T) → (∀ post, wC_X6_emit (nI (opC x)) (nI v) c (fun S_3 => wC_X6_advance S_3 post) → wC_rd (d + 1) 2 c post) → (∀ post, wM_beginOne_81 post (nI x) (nI v) m → wM_beginOne m post) → Ok1 S M n b t s0 tx0 e op C st op T (wC_rd (d + 1) 2 c) m := by
    intro x v n31 hx ht hW hB
    have sm := hT1.2.2.1 n31
    obtain ⟨c1, a1, a2⟩ := CC_emit hc (by omega) x v
    obtain ⟨m1, b1, b2⟩ := CM_emit H hm (by omega) x v
    obtain ⟨ct1, s1, e1, nc1, nr1, f1, f2, aC, aM⟩ := both_adv H (tx0 := tx0) hT1
    obtain ⟨c2, k1, k2⟩ := aC _ _ _ a1
    obtain ⟨m2, k3, k4⟩ := aM _ _ _ _ _ b1
    refine ⟨ct1, s1, e1, nc1, nr1, [(x, v)], 0, c2, m2, f1, f2, k1, k3, ?_, tyRun_1 _ _ _ _ ht, fun post hp => hW post (a2 _ (k2 _ hp)), fun post h => Lp_beginE hm post (fun post2 h2 => hB post2 (b2 _ (k4 _ h2))) h⟩
    rw [List.length_append]
    show C.length + 1 + st.length ≤ s1
    omega
  have bad : ∀ f, (0 < f ∧ f < 9) → (∀ post, wC_X6_fail (nI f) c post → wC_rd (d + 1) 2 c post) → (∀ post, post (nI f) m → wM_beginOne m post) → OutF S M t tx0 (wC_rd (d + 1) 2 c) m := by
    intro f hf hW hB
    exact OutF_now hf hc hm (fun c' hF hr => ⟨c', hF, fun post hp => hW post (hr post hp)⟩) (fun post hp => Lp_beginF hm post hf.1 hf.2 (fun post2 h2 => hB post2 h2) hp)
  by_cases c32 : ct = 32
  · obtain ⟨u1, u2, u3⟩ := hT1.2.2.2.1 c32
    have B : ∀ post : Int32 → MS → Prop, (if nr ≤ 9999 then wM_beginOne_81 post 0 (nI nr) m else post 2 m) → wM_beginOne m post := by
      intro post hp
      refine m_beginOne H hm hT1 (by omega) post ?_
      rw [if_pos c32]
      exact hp
    by_cases q : nr ≤ 9999
    · refine Or.inl (good 0 nr (by omega) (by decide) ?_ ?_ ?_)
      · exact ty_num q (by omega)
      · intro post hp
        refine W post (fun _ => ?_) (fun z => absurd c32 z)
        unfold wC_X6_readPlainNumber
        rw [t6 c32, u2 q]
        exact p_yes ((nI_leI (b := 9999) (by omega) (by decide)).mpr q) hp
      · intro post hp
        exact B post (by rw [if_pos q]; exact hp)
    · refine Or.inr (bad 2 (by decide) ?_ ?_)
      · intro post hp
        refine W post (fun _ => ?_) (fun z => absurd c32 z)
        unfold wC_X6_readPlainNumber
        rw [t6 c32, u3 (by omega)]
        exact p_no (fun z => absurd ((nI_leI (a := 10000) (b := 9999) (by decide) (by decide)).mp z) (by decide)) hp
      · intro post hp
        exact B post (by rw [if_neg q]; exact hp)
  · have l12 : (nI ct < 12) = (ct < 12) := propext (nI_ltI (b := 12) (by omega) (by decide))
    by_cases c12 : ct < 12
    · have B : ∀ post : Int32 → MS → Prop, (if nmOk s0 ct = true then wM_beginOne_81 post 1 (nI ct) m else post 5 m) → wM_beginOne m post := by
        intro post hp
        refine m_beginOne H hm hT1 (by omega) post ?_
        rw [if_neg c32, if_pos c12]
        exact hp
      have l5 : (nI ct ≤ 5) = (ct ≤ 5) := propext (nI_leI (b := 5) (by omega) (by decide))
      have e11 : (nI ct = 11) = (ct = 11) := propext (nI_eq (b := 11) (by omega) (by decide))
      have s3 := H.2.2.1
      have e14 : (cx_r_law c = 14) = (s0 = 2) := by
        rw [t3, H.2.2.2.1]
        exact propext ⟨fun z => by have := (nI_eq (b := 14) (by omega) (by decide)).mp z; omega, fun z => by rw [z]; rfl⟩
      have tab : ∀ a, a < 3 → ∀ k, k < 12 → nmOk a k = (if a = 2 then decide (k ≤ 5 ∨ k = 11) else decide (k < 11)) := by decide +kernel
      have tb := tab s0 s3 ct c12
      by_cases q : nmOk s0 ct = true
      · refine Or.inl (good 1 ct (by omega) (by decide) ?_ ?_ ?_)
        · exact ty_name (by omega) q (by omega)
        · intro post hp
          refine W post (fun z => absurd z c32) (fun _ => ?_)
          have h64 : wC_X6_readName_64 post c := by
            unfold wC_X6_readName_64
            rw [t1]
            exact hp
          unfold wC_X6_readName wC_X6_readName_39
          rw [t1, l12, l5, e11, e14]
          refine p_yes c12 (p_two (fun _ => h64) (fun z => p_two (fun z2 => p_two (fun z3 => p_yes rfl h64) (fun z3 => ?_)) (fun z2 => p_two (fun z3 => ?_) (fun z3 => p_yes rfl h64))))
          · rw [if_neg z3, q] at tb
            have := of_decide_eq_true tb.symm
            omega
          · rw [if_pos z3, q] at tb
            have := of_decide_eq_true tb.symm
            omega
        · intro post hp
          exact B post (by rw [if_pos q]; exact hp)
      · have q' : nmOk s0 ct = false := Bool.eq_false_iff.mpr q
        refine Or.inr (bad 5 (by decide) ?_ ?_)
        · intro post hp
          refine W post (fun z => absurd z c32) (fun _ => ?_)
          unfold wC_X6_readName wC_X6_readName_39
          rw [t1, l12, l5, e11, e14]
          rw [q'] at tb
          refine p_yes c12 (p_two (fun z => ?_) (fun z => p_two (fun z2 => p_two (fun z3 => ?_) (fun z3 => p_no (by decide) hp)) (fun z2 => p_two (fun z3 => p_no (by decide) hp) (fun z3 => ?_))))
          · by_cases y : s0 = 2
            · rw [if_pos y] at tb
              have := of_decide_eq_false tb.symm
              omega
            · rw [if_neg y] at tb
              have := of_decide_eq_false tb.symm
              omega
          · rw [if_pos z3] at tb
            have := of_decide_eq_false tb.symm
            omega
          · rw [if_neg z3] at tb
            have := of_decide_eq_false tb.symm
            omega
        · intro post hp
          exact B post (by rw [if_neg q]; exact hp)
    · refine Or.inr (bad 1 (by decide) ?_ ?_)
      · intro post hp
        refine W post (fun z => absurd z c32) (fun _ => ?_)
        unfold wC_X6_readName
        rw [t1, l12]
        exact p_no c12 hp
      · intro post hp
        refine m_beginOne H hm hT1 (by omega) post ?_
        rw [if_neg c32, if_neg c12, if_neg (by omega), if_neg (by omega), if_neg (by omega), if_neg (by omega), if_neg (by omega), if_neg (fun z => by rw [hask z.1] at z; exact absurd z.2 (by decide))]
        exact hp
