/-! PURE LAYER: both readers in step: hold; one whole -/
def hC2 (d : Nat) (post : CS → Prop) (S_9 : CS) : Prop := wC_X6_expect 19 S_9 (fun S_11 => wC_rd d 2 S_11 (fun S_13 => emC 20 post S_13))
def hC1 (d : Nat) (post : CS → Prop) (S_5 : CS) : Prop := wC_X6_expect 21 S_5 (fun S_7 => wC_rd d 2 S_7 (fun S_9 => hC2 d post S_9))
theorem hR1_f {S : CS} {f s : Nat} (hf : 0 < f ∧ f < 9) {c : CS} (h : FCs S f s c) {d : Nat} (hd : 1 ≤ d) : ∃ c', FCs S f s c' ∧ ∀ post : CS → Prop, post c' → wC_rd d 2 c (fun S_13 => emC 20 post S_13) := by
  obtain ⟨c1, a1, a2⟩ := emC_f h 20
  exact ⟨c1, a1, fun post hp => fc_one hf h hd _ (a2 post hp)⟩
theorem hC2_f {S : CS} {f s : Nat} (hf : 0 < f ∧ f < 9) {c : CS} (h : FCs S f s c) {d : Nat} (hd : 1 ≤ d) : ∃ c', FCs S f s c' ∧ ∀ post : CS → Prop, post c' → hC2 d post c := by
  obtain ⟨c1, a1, a2⟩ := hR1_f hf h hd
  exact ⟨c1, a1, fun post hp => fc_expect hf h (by decide) _ (a2 post hp)⟩
theorem hR2_f {S : CS} {f s : Nat} (hf : 0 < f ∧ f < 9) {c : CS} (h : FCs S f s c) {d : Nat} (hd : 1 ≤ d) : ∃ c', FCs S f s c' ∧ ∀ post : CS → Prop, post c' → wC_rd d 2 c (fun S_9 => hC2 d post S_9) := by
  obtain ⟨c1, a1, a2⟩ := hC2_f hf h hd
  exact ⟨c1, a1, fun post hp => fc_one hf h hd _ (a2 post hp)⟩
theorem hC1_f {S : CS} {f s : Nat} (hf : 0 < f ∧ f < 9) {c : CS} (h : FCs S f s c) {d : Nat} (hd : 1 ≤ d) : ∃ c', FCs S f s c' ∧ ∀ post : CS → Prop, post c' → hC1 d post c := by
  obtain ⟨c1, a1, a2⟩ := hR2_f hf h hd
  exact ⟨c1, a1, fun post hp => fc_expect hf h (by decide) _ (a2 post hp)⟩
theorem one_hold {S : CS} {M : MS} {n : Nat} {b : Nat → Nat} {t s0 : Nat} {tx0 : Nat → Int32} (H : HX S M n b t s0) {ct s e nc nr : Nat} {C : List (Nat × Nat)} {st : List Nat} {op : Nat} {c : CS} {m : MS} {d : Nat} (h2 : P2 S M n b t s0 tx0 d) (ho : op ≤ 8) (hd : 7 * (8 - op) + 1 ≤ d + 1) (hT1 : TN n ct s e nc nr) (hc : CC S ct s e nc C op c) (hm : CM M b t tx0 ct s e nr C st op 0 m) (hlen : C.length + st.length ≤ s) {T : List Bool} (hT : T.length ≤ 5 * op + 2) (hst : st.length ≤ 6 * op + 2) (hk : ct = 20) : Ok1 S M n b t s0 tx0 e op C st op T (wC_rd (d + 1) 2 c) m ∨ OutF S M t tx0 (wC_rd (d + 1) 2 c) m := by
  by_cases h8 : op = 8
  · refine Or.inr (OutF_now (f := 3) (by decide) hc hm (fun c' hF hr => ⟨c', hF, fun post hp => ?_⟩) (fun post hp => Lp_beginF hm post (f := 3) (by decide) (by decide) (fun post2 h2 => ?_) hp))
    · exact one_at hc hT1.2.2.2.2 d post (fun _ => op_8 hc h8 hr _ (p_yes rfl hp)) (fun z => absurd (hk.symm.trans z) (by decide)) (fun z => absurd (hk.symm.trans z) (by decide)) (fun z => absurd (hk.symm.trans z) (by decide)) (fun z => absurd (hk.symm.trans z) (by decide)) (fun z => absurd (hk.symm.trans z) (by decide)) (fun z _ _ _ _ _ => absurd hk z)
    · refine m_beginOne H hm hT1 (by omega) post2 ?_
      rw [if_neg (by omega), if_neg (by omega), if_neg (by omega), if_neg (by omega), if_pos hk]
      exact m_opened8 hm h8 _ post2 h2
  · have sm := hT1.2.2.1 (by omega)
    have h300 := TN_300 H hT1
    obtain ⟨ct1, s1, e1, nc1, nr1, c1, m1, a1, a2, k1, k2, k3, k4⟩ := op_both H hT1 hc hm (by omega) (by omega) (x := 41) (by decide)
    have a21 := a2.1
    have B : ∀ post : Int32 → MS → Prop, Lp post m1 → Lp post m := by
      intro post h
      refine Lp_begin hm post (fun post2 h2 => ?_) h
      refine m_beginOne H hm hT1 (by omega) post2 ?_
      rw [if_neg (by omega), if_neg (by omega), if_neg (by omega), if_neg (by omega), if_pos hk]
      exact k4 post2 h2
    have W : ∀ post : CS → Prop, wC_rd d 2 c1 (fun S_5 => hC1 d post S_5) → wC_rd (d + 1) 2 c post := by
      intro post h
      exact one_at hc hT1.2.2.2.2 d post (fun _ => k3 _ (p_no (by decide) h)) (fun z => absurd (hk.symm.trans z) (by decide)) (fun z => absurd (hk.symm.trans z) (by decide)) (fun z => absurd (hk.symm.trans z) (by decide)) (fun z => absurd (hk.symm.trans z) (by decide)) (fun z => absurd (hk.symm.trans z) (by decide)) (fun z _ _ _ _ _ => absurd hk z)
    have dd : 1 ≤ d := by omega
    rcases h2 (op + 1) ct1 s1 e1 nc1 nr1 C (41 :: st) T c1 m1 (by omega) (by omega) a2 k1 k2 (by show C.length + (st.length + 1) ≤ s1; omega) (by first | omega | (simp only [List.length_cons]; omega)) (by show st.length + 1 ≤ _; omega) (fun _ => ask_no 41 st (by decide)) with ⟨ct2, s2, e2, nc2, nr2, E2, iw2, c2, m2, b1, b2, b3, b4, b5, b6, b7, b8⟩ | F
    · have h32 := TN_300 H b2
      have b21 := b2.1
      have b5' : (C ++ E2).length + (st.length + 1) ≤ s2 := b5
      obtain ⟨m3, g1, gN, gY⟩ := E1_hold H (y := 42) (i := 21) (Or.inl ⟨rfl, rfl, rfl⟩) b4 (by omega) (by omega) (by omega)
      by_cases q : ct2 = 21
      · obtain ⟨ct3, s3, e3, nc3, nr3, a3, a4, aC, aM⟩ := both_adv H (tx0 := tx0) b2
        have a41 := a4.1
        have sm2 := b2.2.2.1 (by omega)
        obtain ⟨c3, l1, l2⟩ := aC _ _ _ b3
        obtain ⟨m4, l3, l4⟩ := aM _ _ _ _ _ g1
        obtain ⟨m5, l5, l6⟩ := gY q m4 (ct3, s3, e3, nr3) l4 l3
        have B2 : ∀ post : Int32 → MS → Prop, Lp post m5 → Lp post m := fun post h => B post (b8 post (l6 post h))
        have W2 : ∀ post : CS → Prop, wC_rd d 2 c3 (fun S_9 => hC2 d post S_9) → wC_rd (d + 1) 2 c post := fun post h => W post (b7 _ (ex_yes b3 (k := 21) rfl q l2 _ h))
        rcases h2 (op + 1) ct3 s3 e3 nc3 nr3 (C ++ E2) (42 :: st) (true :: T) c3 m5 (by omega) (by omega) a4 l1 l5 (by show (C ++ E2).length + (st.length + 1) ≤ s3; omega) (by first | omega | (simp only [List.length_cons]; omega)) (by show st.length + 1 ≤ _; omega) (fun _ => ask_no 42 st (by decide)) with ⟨ct4, s4, e4, nc4, nr4, E4, iw4, c4, m6, d1, d2, d3, d4, d5, d6, d7, d8⟩ | F
        · have h34 := TN_300 H d2
          have d21 := d2.1
          have d5' : (C ++ E2 ++ E4).length + (st.length + 1) ≤ s4 := d5
          obtain ⟨m7, j1, jN, jY⟩ := E1_hold H (y := 4) (i := 19) (Or.inr ⟨rfl, rfl, rfl⟩) d4 (by omega) (by omega) (by omega)
          by_cases q2 : ct4 = 19
          · obtain ⟨ct5, s5, e5, nc5, nr5, a5, a6, aC2, aM2⟩ := both_adv H (tx0 := tx0) d2
            have a61 := a6.1
            have sm4 := d2.2.2.1 (by omega)
            obtain ⟨c5, n1, n2⟩ := aC2 _ _ _ d3
            obtain ⟨m8, n3, n4⟩ := aM2 _ _ _ _ _ j1
            obtain ⟨m9, n5, n6⟩ := jY q2 m8 (ct5, s5, e5, nr5) n4 n3
            have B3 : ∀ post : Int32 → MS → Prop, Lp post m9 → Lp post m := fun post h => B2 post (d8 post (n6 post h))
            have W3 : ∀ post : CS → Prop, wC_rd d 2 c5 (fun S_13 => emC 20 post S_13) → wC_rd (d + 1) 2 c post := fun post h => W2 post (d7 _ (ex_yes d3 (k := 19) rfl q2 n2 _ h))
            rcases h2 (op + 1) ct5 s5 e5 nc5 nr5 (C ++ E2 ++ E4) (4 :: st) (true :: true :: T) c5 m9 (by omega) (by omega) a6 n1 n5 (by show (C ++ E2 ++ E4).length + (st.length + 1) ≤ s5; omega) (by first | omega | (simp only [List.length_cons]; omega)) (by show st.length + 1 ≤ _; omega) (fun _ => ask_no 4 st (by decide)) with ⟨ct6, s6, e6, nc6, nr6, E6, iw6, c6, m10, f1, f2, f3, f4, f5, f6, f7, f8⟩ | F
            · have h36 := TN_300 H f2
              have f5' : (C ++ E2 ++ E4 ++ E6).length + (st.length + 1) ≤ s6 := f5
              obtain ⟨c7, r1, r2⟩ := emC_ok f3 (by omega) (x := 4) (k := 20) rfl
              obtain ⟨m11, r3, r4⟩ := E1_pop H f4 (by omega) (by decide) (by omega) (by omega)
              have eC : C ++ E2 ++ E4 ++ E6 ++ [(4, 0)] = C ++ (E2 ++ E4 ++ E6 ++ [(4, 0)]) := by
                simp only [List.append_assoc]
              have ln : (C ++ E2 ++ E4 ++ E6 ++ [(4, 0)]).length + st.length ≤ s6 := by
                rw [List.length_append]
                show (C ++ E2 ++ E4 ++ E6).length + 1 + st.length ≤ s6
                omega
              rw [eC] at r1 r3 ln
              exact Or.inl ⟨ct6, s6, e6, nc6, nr6, E2 ++ E4 ++ E6 ++ [(4, 0)], iw6, c7, m11, by omega, f2, r1, r3, ln, tyRun_two s0 _ _ T _ _ (tyRun_two s0 _ _ T _ _ (tyRun_two s0 _ _ T _ _ b6 d6) f6) (tyRun_1 s0 _ _ _ rfl), fun post hp => W3 post (f7 _ (r2 post hp)), fun post h => B3 post (f8 post (r4 post h))⟩
            · refine Or.inr (OutF_map F (fun f s' c' hf hF => ?_) B3)
              obtain ⟨c7, r1, r2⟩ := emC_f hF 20
              exact ⟨c7, r1, fun hr post hp => W3 post (hr _ (r2 post hp))⟩
          · refine Or.inr (OutF_now (f := 1) (by decide) d3 j1 (fun c' hF hr => ?_) (fun post hp => B2 post (d8 post (jN q2 post hp))))
            obtain ⟨c7, r1, r2⟩ := hR1_f (by decide) hF dd
            exact ⟨c7, r1, fun post hp => W2 post (d7 _ (ex_no d3 (k := 19) rfl d2.2.2.2.2 (by decide) q2 hr _ (r2 post hp)))⟩
        · refine Or.inr (OutF_map F (fun f s' c' hf hF => ?_) B2)
          obtain ⟨c7, r1, r2⟩ := hC2_f hf hF dd
          exact ⟨c7, r1, fun hr post hp => W2 post (hr _ (r2 post hp))⟩
      · refine Or.inr (OutF_now (f := 1) (by decide) b3 g1 (fun c' hF hr => ?_) (fun post hp => B post (b8 post (gN q post hp))))
        obtain ⟨c7, r1, r2⟩ := hR2_f (by decide) hF dd
        exact ⟨c7, r1, fun post hp => W post (b7 _ (ex_no b3 (k := 21) rfl b2.2.2.2.2 (by decide) q hr _ (r2 post hp)))⟩
    · refine Or.inr (OutF_map F (fun f s' c' hf hF => ?_) B)
      obtain ⟨c7, r1, r2⟩ := hC1_f hf hF dd
      exact ⟨c7, r1, fun hr post hp => W post (hr _ (r2 post hp))⟩
theorem step_2 {S : CS} {M : MS} {n : Nat} {b : Nat → Nat} {t s0 : Nat} {tx0 : Nat → Int32} (H : HX S M n b t s0) {d : Nat} (h2 : P2 S M n b t s0 tx0 d) (h0 : P0 S M n b t s0 tx0 d) (h3 : P3 S M n b t s0 tx0 d) : P2 S M n b t s0 tx0 (d + 1) := by
  intro op ct s e nc nr C st T c m ho hd hT1 hc hm hlen hT hst hask
  by_cases k40 : ct = 40
  · exact one_minus H h2 ho hd hT1 hc hm hlen hT hst k40
  by_cases k22 : ct = 22
  · exact one_moods H h2 ho hd hT1 hc hm hlen hT hst k22
  by_cases k43 : ct = 43
  · exact one_paren H h0 ho hd hT1 hc hm hlen hT hst k43
  by_cases k23 : ct = 23
  · exact one_if H h3 ho hd hT1 hc hm hlen hT hst k23
  by_cases k20 : ct = 20
  · exact one_hold H h2 ho hd hT1 hc hm hlen hT hst k20
  exact one_leaf H ho hT1 hc hm hlen hT hst hask ⟨k20, k22, k23, k40, k43⟩
