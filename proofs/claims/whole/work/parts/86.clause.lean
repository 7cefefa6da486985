/-! PURE LAYER: both readers in step: every deed -/
theorem NOk_map {S : CS} {M : MS} {n : Nat} {b : Nat → Nat} {t : Nat} {tx0 : Nat → Int32} {e : Nat} {C : List (Nat × Nat)} {g tx1 : Nat → Int32} {W W' : (CS → Prop) → Prop} {V V' : (Int32 → MS → Prop) → Prop} (h : NOk S M n b t tx0 e C g tx1 W V) (hW : ∀ post, W post → W' post) (hV : ∀ post, V post → V' post) : NOk S M n b t tx0 e C g tx1 W' V' := by
  obtain ⟨ct', s', e', nc', nr', c', m', a1, a2, a3, a4, a5, a6, a7⟩ := h
  exact ⟨ct', s', e', nc', nr', c', m', a1, a2, a3, a4, a5, fun post hp => hW post (a6 post hp), fun post hp => hV post (a7 post hp)⟩
theorem NF_map {S : CS} {M : MS} {t : Nat} {tx0 : Nat → Int32} {W W' : (CS → Prop) → Prop} {V V' : (Int32 → MS → Prop) → Prop} (h : NF S M t W V tx0) (hW : ∀ post, W post → W' post) (hV : ∀ post, V post → V' post) : NF S M t W' V' tx0 := by
  obtain ⟨f, s', g, tx1, c', m', a1, a2, a3, a4, a5, a6⟩ := h
  exact ⟨f, s', g, tx1, c', m', a1, a2, a3, a4, fun post hp => hW post (a5 post hp), fun post hp => hV post (a6 post hp)⟩
theorem deed_3 {S : CS} {M : MS} {n : Nat} {b : Nat → Nat} {t : Nat} (H : TP S M n b) {tx0 : Nat → Int32} {ct s e nc nr : Nat} {C : List (Nat × Nat)} {c : CS} {m : MS} (hT : TN n ct s e nc nr) (hc : CC S ct s e nc C 0 c) (hm : KM M b t tx0 ct s e nr C m) {cc a : Nat} (hcc : cx_r_clauseCount S = nI cc) (h24 : cc < 24) (ha : 705 * t ≤ a ∧ a + 3 < 705 * t + 97) (ht : t < 4) : (∃ g tx1, Row S tx0 3 cc a g tx1 ∧ NOk S M n b t tx0 e C g tx1 (wC_X6_readDeed (nI 5) c) (wM_body (nI 3) (nI a) m)) ∨ NF S M t (wC_X6_readDeed (nI 5) c) (wM_body (nI 3) (nI a) m) tx0 := by
  have W : ∀ post : CS → Prop, wC_X6_readNumber (nI 1) (nI 0) (nI 3) c (fun S_2 => wC_X6_expect (nI 2) S_2 (fun S_4 => wC_X6_readNumber (nI 2) 0 (nI 99) S_4 post)) → wC_X6_readDeed (nI 5) c post := by
    intro post h
    unfold wC_X6_readDeed
    exact ⟨fun z => absurd z (by decide), fun _ => h, fun z => absurd z (by decide), fun z => absurd z (by decide), fun z => absurd z (by decide), fun z => absurd z (by decide), fun _ z _ _ _ _ => absurd rfl z⟩
  have V : ∀ post : Int32 → MS → Prop, wM_pair (nI a) (nI 0) (nI 3) (wK 2) (nI 99) m post → wM_body (nI 3) (nI a) m post := by
    intro post h
    unfold wM_body
    exact ⟨fun _ => by rw [wv_2]; exact h, fun z => absurd z (by decide), fun z => absurd z (by decide), fun z => absurd z (by decide), fun z => absurd z (by decide), fun z => absurd z (by decide), fun z => absurd z (by decide), fun z _ _ _ _ _ _ => absurd rfl z⟩
  rcases pair_both H hT hc hm (cc := cc) (k := 2) (lo := 0) (hi := 3) (h2 := 99) (a := a) (by decide) (by decide) hcc h24 (by decide) (by decide) (by decide) (by omega) ht with ⟨v1, v2, hv, N⟩ | F
  · exact Or.inl ⟨_, _, row_2 S tx0 rfl (by decide), NOk_map N W V⟩
  · exact Or.inr (NF_map F W V)
theorem deed_4 {S : CS} {M : MS} {n : Nat} {b : Nat → Nat} {t : Nat} (H : TP S M n b) {tx0 : Nat → Int32} {ct s e nc nr : Nat} {C : List (Nat × Nat)} {c : CS} {m : MS} (hT : TN n ct s e nc nr) (hc : CC S ct s e nc C 0 c) (hm : KM M b t tx0 ct s e nr C m) {cc a : Nat} (hcc : cx_r_clauseCount S = nI cc) (h24 : cc < 24) (ha : 705 * t ≤ a ∧ a + 3 < 705 * t + 97) (ht : t < 4) : (∃ g tx1, Row S tx0 4 cc a g tx1 ∧ NOk S M n b t tx0 e C g tx1 (wC_X6_readDeed (nI 15) c) (wM_body (nI 4) (nI a) m)) ∨ NF S M t (wC_X6_readDeed (nI 15) c) (wM_body (nI 4) (nI a) m) tx0 := by
  have W : ∀ post : CS → Prop, wC_X6_readNumber (nI 1) (nI 1) (nI 9) c (fun S_2 => wC_X6_expect (nI 7) S_2 (fun S_4 => wC_X6_readNumber (nI 2) 0 (nI 99) S_4 post)) → wC_X6_readDeed (nI 15) c post := by
    intro post h
    unfold wC_X6_readDeed
    exact ⟨fun z => absurd z (by decide), fun z => absurd z (by decide), fun z => absurd z (by decide), fun _ => h, fun z => absurd z (by decide), fun z => absurd z (by decide), fun _ _ _ z _ _ => absurd rfl z⟩
  have V : ∀ post : Int32 → MS → Prop, wM_pair (nI a) (nI 1) (nI 9) (wK 7) (nI 99) m post → wM_body (nI 4) (nI a) m post := by
    intro post h
    unfold wM_body
    exact ⟨fun z => absurd z (by decide), fun _ => by rw [wv_7]; exact h, fun z => absurd z (by decide), fun z => absurd z (by decide), fun z => absurd z (by decide), fun z => absurd z (by decide), fun z => absurd z (by decide), fun _ z _ _ _ _ _ => absurd rfl z⟩
  rcases pair_both H hT hc hm (cc := cc) (k := 7) (lo := 1) (hi := 9) (h2 := 99) (a := a) (by decide) (by decide) hcc h24 (by decide) (by decide) (by decide) (by omega) ht with ⟨v1, v2, hv, N⟩ | F
  · exact Or.inl ⟨_, _, row_2 S tx0 rfl (by decide), NOk_map N W V⟩
  · exact Or.inr (NF_map F W V)
theorem deed_5 {S : CS} {M : MS} {n : Nat} {b : Nat → Nat} {t : Nat} (H : TP S M n b) {tx0 : Nat → Int32} {ct s e nc nr : Nat} {C : List (Nat × Nat)} {c : CS} {m : MS} (hT : TN n ct s e nc nr) (hc : CC S ct s e nc C 0 c) (hm : KM M b t tx0 ct s e nr C m) {cc a : Nat} (hcc : cx_r_clauseCount S = nI cc) (h24 : cc < 24) (ha : 705 * t ≤ a ∧ a + 3 < 705 * t + 97) (ht : t < 4) : (∃ g tx1, Row S tx0 5 cc a g tx1 ∧ NOk S M n b t tx0 e C g tx1 (wC_X6_readDeed (nI 3) c) (wM_body (nI 5) (nI a) m)) ∨ NF S M t (wC_X6_readDeed (nI 3) c) (wM_body (nI 5) (nI a) m) tx0 := by
  have W : ∀ post : CS → Prop, wC_X6_readNumber (nI 1) (nI 0) (nI 9) c (fun S_2 => wC_X6_expect (nI 18) S_2 (fun S_4 => wC_X6_readNumber (nI 2) 0 (nI 4) S_4 (fun S_6 => wC_X6_expect (nI 19) S_6 (fun S_8 => wC_X6_readNumber (nI 3) 0 (nI 9) S_8 post)))) → wC_X6_readDeed (nI 3) c post := by
    intro post h
    unfold wC_X6_readDeed
    exact ⟨fun _ => h, fun z => absurd z (by decide), fun z => absurd z (by decide), fun z => absurd z (by decide), fun z => absurd z (by decide), fun z => absurd z (by decide), fun z _ _ _ _ _ => absurd rfl z⟩
  have V : ∀ post : Int32 → MS → Prop, wM_moodClause (nI a) m post → wM_body (nI 5) (nI a) m post := by
    intro post h
    unfold wM_body
    exact ⟨fun z => absurd z (by decide), fun z => absurd z (by decide), fun _ => h, fun z => absurd z (by decide), fun z => absurd z (by decide), fun z => absurd z (by decide), fun z => absurd z (by decide), fun _ _ z _ _ _ _ => absurd rfl z⟩
  rcases mood_both H hT hc hm (cc := cc) (a := a) hcc h24 (by omega) ht with ⟨v1, v2, v3, N⟩ | F
  · exact Or.inl ⟨_, _, row_3 S tx0 rfl (by decide), NOk_map N W V⟩
  · exact Or.inr (NF_map F W V)
theorem deed_6 {S : CS} {M : MS} {n : Nat} {b : Nat → Nat} {t : Nat} (H : TP S M n b) {tx0 : Nat → Int32} {ct s e nc nr : Nat} {C : List (Nat × Nat)} {c : CS} {m : MS} (hT : TN n ct s e nc nr) (hc : CC S ct s e nc C 0 c) (hm : KM M b t tx0 ct s e nr C m) {cc a : Nat} (hcc : cx_r_clauseCount S = nI cc) (h24 : cc < 24) (ha : 705 * t ≤ a ∧ a + 3 < 705 * t + 97) (ht : t < 4) : (∃ g tx1, Row S tx0 6 cc a g tx1 ∧ NOk S M n b t tx0 e C g tx1 (wC_X6_readDeed (nI 16) c) (wM_body (nI 6) (nI a) m)) ∨ NF S M t (wC_X6_readDeed (nI 16) c) (wM_body (nI 6) (nI a) m) tx0 := by
  have W : ∀ post : CS → Prop, wC_X6_readNumber (nI 1) (nI 0) (nI 4) c (fun S_2 => wC_X6_expect (nI 19) S_2 (fun S_4 => wC_X6_readNumber (nI 2) 0 (nI 5) S_4 post)) → wC_X6_readDeed (nI 16) c post := by
    intro post h
    unfold wC_X6_readDeed
    exact ⟨fun z => absurd z (by decide), fun z => absurd z (by decide), fun z => absurd z (by decide), fun z => absurd z (by decide), fun _ => h, fun z => absurd z (by decide), fun _ _ _ _ z _ => absurd rfl z⟩
  have V : ∀ post : Int32 → MS → Prop, wM_pair (nI a) (nI 0) (nI 4) (wK 19) (nI 5) m post → wM_body (nI 6) (nI a) m post := by
    intro post h
    unfold wM_body
    exact ⟨fun z => absurd z (by decide), fun z => absurd z (by decide), fun z => absurd z (by decide), fun _ => by rw [wv_19]; exact h, fun z => absurd z (by decide), fun z => absurd z (by decide), fun z => absurd z (by decide), fun _ _ _ z _ _ _ => absurd rfl z⟩
  rcases pair_both H hT hc hm (cc := cc) (k := 19) (lo := 0) (hi := 4) (h2 := 5) (a := a) (by decide) (by decide) hcc h24 (by decide) (by decide) (by decide) (by omega) ht with ⟨v1, v2, hv, N⟩ | F
  · exact Or.inl ⟨_, _, row_2 S tx0 rfl (by decide), NOk_map N W V⟩
  · exact Or.inr (NF_map F W V)
theorem deed_7 {S : CS} {M : MS} {n : Nat} {b : Nat → Nat} {t : Nat} (H : TP S M n b) {tx0 : Nat → Int32} {ct s e nc nr : Nat} {C : List (Nat × Nat)} {c : CS} {m : MS} (hT : TN n ct s e nc nr) (hc : CC S ct s e nc C 0 c) (hm : KM M b t tx0 ct s e nr C m) {cc a : Nat} (hcc : cx_r_clauseCount S = nI cc) (h24 : cc < 24) (ha : 705 * t ≤ a ∧ a + 3 < 705 * t + 97) (ht : t < 4) : (∃ g tx1, Row S tx0 7 cc a g tx1 ∧ NOk S M n b t tx0 e C g tx1 (wC_X6_readDeed (nI 9) c) (wM_body (nI 7) (nI a) m)) ∨ NF S M t (wC_X6_readDeed (nI 9) c) (wM_body (nI 7) (nI a) m) tx0 := by
  have W : ∀ post : CS → Prop, wC_X6_readNumber (nI 1) (nI 0) (nI 4) c (fun S_2 => wC_X6_expect (nI 18) S_2 (fun S_4 => wC_X6_readNumber (nI 2) 0 (nI 4) S_4 post)) → wC_X6_readDeed (nI 9) c post := by
    intro post h
    unfold wC_X6_readDeed
    exact ⟨fun z => absurd z (by decide), fun z => absurd z (by decide), fun _ => h, fun z => absurd z (by decide), fun z => absurd z (by decide), fun z => absurd z (by decide), fun _ _ z _ _ _ => absurd rfl z⟩
  have V : ∀ post : Int32 → MS → Prop, wM_pair (nI a) (nI 0) (nI 4) (wK 18) (nI 4) m post → wM_body (nI 7) (nI a) m post := by
    intro post h
    unfold wM_body
    exact ⟨fun z => absurd z (by decide), fun z => absurd z (by decide), fun z => absurd z (by decide), fun z => absurd z (by decide), fun _ => by rw [wv_18]; exact h, fun z => absurd z (by decide), fun z => absurd z (by decide), fun _ _ _ _ z _ _ => absurd rfl z⟩
  rcases pair_both H hT hc hm (cc := cc) (k := 18) (lo := 0) (hi := 4) (h2 := 4) (a := a) (by decide) (by decide) hcc h24 (by decide) (by decide) (by decide) (by omega) ht with ⟨v1, v2, hv, N⟩ | F
  · exact Or.inl ⟨_, _, row_2 S tx0 rfl (by decide), NOk_map N W V⟩
  · exact Or.inr (NF_map F W V)
theorem deed_8 {S : CS} {M : MS} {n : Nat} {b : Nat → Nat} {t : Nat} (H : TP S M n b) {tx0 : Nat → Int32} {ct s e nc nr : Nat} {C : List (Nat × Nat)} {c : CS} {m : MS} (hT : TN n ct s e nc nr) (hc : CC S ct s e nc C 0 c) (hm : KM M b t tx0 ct s e nr C m) {cc a : Nat} (hcc : cx_r_clauseCount S = nI cc) (h24 : cc < 24) (ha : 705 * t ≤ a ∧ a + 3 < 705 * t + 97) (ht : t < 4) : (∃ g tx1, Row S tx0 8 cc a g tx1 ∧ NOk S M n b t tx0 e C g tx1 (wC_X6_readDeed (nI 17) c) (wM_body (nI 8) (nI a) m)) ∨ NF S M t (wC_X6_readDeed (nI 17) c) (wM_body (nI 8) (nI a) m) tx0 := by
  have W : ∀ post : CS → Prop, wC_X6_readNumber (nI 1) (nI 0) (nI 4) c post → wC_X6_readDeed (nI 17) c post := by
    intro post h
    unfold wC_X6_readDeed
    exact ⟨fun z => absurd z (by decide), fun z => absurd z (by decide), fun z => absurd z (by decide), fun z => absurd z (by decide), fun z => absurd z (by decide), fun _ => h, fun _ _ _ _ _ z => absurd rfl z⟩
  have V : ∀ post : Int32 → MS → Prop, wM_figure (nI (a + 1)) (nI 0) (nI 4) m post → wM_body (nI 8) (nI a) m post := by
    intro post h
    unfold wM_body
    exact ⟨fun z => absurd z (by decide), fun z => absurd z (by decide), fun z => absurd z (by decide), fun z => absurd z (by decide), fun z => absurd z (by decide), fun _ => by rw [nI_1 a]; exact h, fun z => absurd z (by decide), fun _ _ _ _ _ z _ => absurd rfl z⟩
  rcases num_both H hT hc hm (p := 1) (lo := 0) (hi := 4) (a := a + 1) hcc h24 (by decide) (by decide) (by decide) (by omega) ht with ⟨ct1, s1, e1, nc1, nr1, c1, m1, b1, b2, b3, b4, b5, b6, b7, b8, b9⟩ | ⟨f, c', b1, b2, b3, b4⟩
  · exact Or.inl ⟨_, _, row_1 S tx0 rfl (fun z => absurd z (by decide)), ct1, s1, e1, nc1, nr1, c1, m1, b2, b4, b5, b6, b7, fun post hp => W post (b8 post hp), fun post hp => V post (b9 post hp)⟩
  · exact Or.inr ⟨f, s, cx_r_clauses S, tx0, c', m, b1, by rw [cl_self]; exact b2, KM_FM hm, fun _ _ => rfl, fun post hp => W post (b3 post hp), fun post hp => V post (b4 post hp)⟩
theorem deed_9 {S : CS} {M : MS} {n : Nat} {b : Nat → Nat} {t : Nat} (H : TP S M n b) {tx0 : Nat → Int32} {ct s e nc nr : Nat} {C : List (Nat × Nat)} {c : CS} {m : MS} (hT : TN n ct s e nc nr) (hc : CC S ct s e nc C 0 c) (hm : KM M b t tx0 ct s e nr C m) {cc a : Nat} (hcc : cx_r_clauseCount S = nI cc) (h24 : cc < 24) (ha : 705 * t ≤ a ∧ a + 3 < 705 * t + 97) (ht : t < 4) : (∃ g tx1, Row S tx0 9 cc a g tx1 ∧ NOk S M n b t tx0 e C g tx1 (wC_X6_readDeed (nI 0) c) (wM_body (nI 9) (nI a) m)) ∨ NF S M t (wC_X6_readDeed (nI 0) c) (wM_body (nI 9) (nI a) m) tx0 := by
  have W : ∀ post : CS → Prop, wC_X6_readNumber (nI 1) (nI 1) (nI 60) c post → wC_X6_readDeed (nI 0) c post := by
    intro post h
    unfold wC_X6_readDeed
    exact ⟨fun z => absurd z (by decide), fun z => absurd z (by decide), fun z => absurd z (by decide), fun z => absurd z (by decide), fun z => absurd z (by decide), fun z => absurd z (by decide), fun _ _ _ _ _ _ => h⟩
  have V : ∀ post : Int32 → MS → Prop, wM_figure (nI (a + 1)) (nI 1) (nI 60) m post → wM_body (nI 9) (nI a) m post := by
    intro post h
    unfold wM_body
    exact ⟨fun z => absurd z (by decide), fun z => absurd z (by decide), fun z => absurd z (by decide), fun z => absurd z (by decide), fun z => absurd z (by decide), fun z => absurd z (by decide), fun _ => by rw [nI_1 a]; exact h, fun _ _ _ _ _ _ z => absurd rfl z⟩
  rcases num_both H hT hc hm (p := 1) (lo := 1) (hi := 60) (a := a + 1) hcc h24 (by decide) (by decide) (by decide) (by omega) ht with ⟨ct1, s1, e1, nc1, nr1, c1, m1, b1, b2, b3, b4, b5, b6, b7, b8, b9⟩ | ⟨f, c', b1, b2, b3, b4⟩
  · exact Or.inl ⟨_, _, row_1 S tx0 rfl (fun _ => ⟨b1.2.1, b1.2.2⟩), ct1, s1, e1, nc1, nr1, c1, m1, b2, b4, b5, b6, b7, fun post hp => W post (b8 post hp), fun post hp => V post (b9 post hp)⟩
  · exact Or.inr ⟨f, s, cx_r_clauses S, tx0, c', m, b1, by rw [cl_self]; exact b2, KM_FM hm, fun _ _ => rfl, fun post hp => W post (b3 post hp), fun post hp => V post (b4 post hp)⟩
theorem deed_both {S : CS} {M : MS} {n : Nat} {b : Nat → Nat} {t : Nat} (H : TP S M n b) {tx0 : Nat → Int32} {ct s e nc nr : Nat} {C : List (Nat × Nat)} {c : CS} {m : MS} (hT : TN n ct s e nc nr) (hc : CC S ct s e nc C 0 c) (hm : KM M b t tx0 ct s e nr C m) {so cc a : Nat} (hso : 3 ≤ so ∧ so ≤ 9) (hcc : cx_r_clauseCount S = nI cc) (h24 : cc < 24) (ha : 705 * t ≤ a ∧ a + 3 < 705 * t + 97) (ht : t < 4) : (∃ g tx1, Row S tx0 so cc a g tx1 ∧ NOk S M n b t tx0 e C g tx1 (wC_X6_readDeed (nI (soC so)) c) (wM_body (nI so) (nI a) m)) ∨ NF S M t (wC_X6_readDeed (nI (soC so)) c) (wM_body (nI so) (nI a) m) tx0 := by
  have e : so = 3 ∨ so = 4 ∨ so = 5 ∨ so = 6 ∨ so = 7 ∨ so = 8 ∨ so = 9 := by omega
  rcases e with z | z | z | z | z | z | z
  · rw [z]
    exact deed_3 H hT hc hm hcc h24 ha ht
  · rw [z]
    exact deed_4 H hT hc hm hcc h24 ha ht
  · rw [z]
    exact deed_5 H hT hc hm hcc h24 ha ht
  · rw [z]
    exact deed_6 H hT hc hm hcc h24 ha ht
  · rw [z]
    exact deed_7 H hT hc hm hcc h24 ha ht
  · rw [z]
    exact deed_8 H hT hc hm hcc h24 ha ht
  · rw [z]
    exact deed_9 H hT hc hm hcc h24 ha ht
