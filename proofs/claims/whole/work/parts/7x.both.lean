/-! PURE LAYER: both readers in step: one -/
def P3 (S : CS) (M : MS) (n : Nat) (b : Nat → Nat) (t s0 : Nat) (tx0 : Nat → Int32) (d : Nat) : Prop := ∀ (op ct s e nc nr : Nat) (C : List (Nat × Nat)) (st : List Nat) (T : List Bool) (c : CS) (m : MS), op ≤ 8 → 1 ≤ op → 7 * (8 - op) + 7 ≤ d → TN n ct s e nc nr → CC S ct s e nc C op c → CM M b t tx0 ct s e nr C (43 :: st) op 0 m → C.length + (st.length + 1) ≤ s → T.length + 3 ≤ 5 * op → st.length + 4 ≤ 6 * op → Ok1 S M n b t s0 tx0 e op C st (op - 1) T (wC_rd d 3 c) m ∨ OutF S M t tx0 (wC_rd d 3 c) m
theorem one_minus {S : CS} {M : MS} {n : Nat} {b : Nat → Nat} {t s0 : Nat} {tx0 : Nat → Int32} (H : HX S M n b t s0) {ct s e nc nr : Nat} {C : List (Nat × Nat)} {st : List Nat} {op : Nat} {c : CS} {m : MS} {d : Nat} (h2 : P2 S M n b t s0 tx0 d) (ho : op ≤ 8) (hd : 7 * (8 - op) + 1 ≤ d + 1) (hT1 : TN n ct s e nc nr) (hc : CC S ct s e nc C op c) (hm : CM M b t tx0 ct s e nr C st op 0 m) (hlen : C.length + st.length ≤ s) {T : List Bool} (hT : T.length ≤ 5 * op + 2) (hst : st.length ≤ 6 * op + 2) (hk : ct = 40) : Ok1 S M n b t s0 tx0 e op C st op T (wC_rd (d + 1) 2 c) m ∨ OutF S M t tx0 (wC_rd (d + 1) 2 c) m := by
  by_cases h8 : op = 8
  · refine Or.inr (OutF_now (f := 3) (by decide) hc hm (fun c' hF hr => ⟨c', hF, fun post hp => ?_⟩) (fun post hp => Lp_beginF hm post (f := 3) (by decide) (by decide) (fun post2 h2 => ?_) hp))
    · exact one_at hc hT1.2.2.2.2 d post (fun z => absurd (hk.symm.trans z) (by decide)) (fun z => absurd (hk.symm.trans z) (by decide)) (fun z => absurd (hk.symm.trans z) (by decide)) (fun z => absurd (hk.symm.trans z) (by decide)) (fun _ => op_8 hc h8 hr _ (p_yes rfl hp)) (fun z => absurd (hk.symm.trans z) (by decide)) (fun _ _ _ _ z _ => absurd hk z)
    · refine m_beginOne H hm hT1 (by omega) post2 ?_
      rw [if_neg (by omega), if_neg (by omega), if_neg (by omega), if_pos hk]
      exact m_opened8 hm h8 _ post2 h2
  · have sm := hT1.2.2.1 (by omega)
    have h300 := TN_300 H hT1
    obtain ⟨ct1, s1, e1, nc1, nr1, c1, m1, a1, a2, k1, k2, k3, k4⟩ := op_both H hT1 hc hm (by omega) (by omega) (x := 5) (by decide)
    have a21 := a2.1
    have B : ∀ post : Int32 → MS → Prop, Lp post m1 → Lp post m := by
      intro post h
      refine Lp_begin hm post (fun post2 h2 => ?_) h
      refine m_beginOne H hm hT1 (by omega) post2 ?_
      rw [if_neg (by omega), if_neg (by omega), if_neg (by omega), if_pos hk]
      exact k4 post2 h2
    rcases h2 (op + 1) ct1 s1 e1 nc1 nr1 C (5 :: st) T c1 m1 (by omega) (by omega) a2 k1 k2 (by show C.length + (st.length + 1) ≤ s1; omega) (by omega) (by show st.length + 1 ≤ _; omega) (fun _ => ask_no 5 st (by decide)) with ⟨ct2, s2, e2, nc2, nr2, E2, iw2, c2, m3, b1, b2, b3, b4, b5, b6, b7, b8⟩ | F
    · have h300' := TN_300 H b2
      have b5' : (C ++ E2).length + (st.length + 1) ≤ s2 := b5
      obtain ⟨c3, f1, f2⟩ := emC_ok b3 (by omega) (x := 5) (k := 46) rfl
      obtain ⟨m4, f3, f4⟩ := E1_pop H b4 (by omega) (by decide) (by omega) (by omega)
      rw [List.append_assoc] at f1 f3
      refine Or.inl ⟨ct2, s2, e2, nc2, nr2, E2 ++ [(5, 0)], iw2, c3, m4, by omega, b2, f1, f3, ?_, tyRun_two s0 E2 _ T _ _ b6 (tyRun_1 s0 _ _ _ rfl), fun post hp => ?_, fun post h => B post (b8 post (f4 post h))⟩
      · rw [← List.append_assoc, List.length_append]
        show (C ++ E2).length + 1 + st.length ≤ s2
        omega
      · exact one_at hc hT1.2.2.2.2 d post (fun z => absurd (hk.symm.trans z) (by decide)) (fun z => absurd (hk.symm.trans z) (by decide)) (fun z => absurd (hk.symm.trans z) (by decide)) (fun z => absurd (hk.symm.trans z) (by decide)) (fun _ => k3 _ (p_no (by decide) (b7 _ (f2 post hp)))) (fun z => absurd (hk.symm.trans z) (by decide)) (fun _ _ _ _ z _ => absurd hk z)
    · refine Or.inr (OutF_map F (fun f s' c' hf hF => ?_) B)
      obtain ⟨c3, f1, f2⟩ := emC_f hF 46
      refine ⟨c3, f1, fun hr post hp => ?_⟩
      exact one_at hc hT1.2.2.2.2 d post (fun z => absurd (hk.symm.trans z) (by decide)) (fun z => absurd (hk.symm.trans z) (by decide)) (fun z => absurd (hk.symm.trans z) (by decide)) (fun z => absurd (hk.symm.trans z) (by decide)) (fun _ => k3 _ (p_no (by decide) (hr _ (f2 post hp)))) (fun z => absurd (hk.symm.trans z) (by decide)) (fun _ _ _ _ z _ => absurd hk z)
theorem one_moods {S : CS} {M : MS} {n : Nat} {b : Nat → Nat} {t s0 : Nat} {tx0 : Nat → Int32} (H : HX S M n b t s0) {ct s e nc nr : Nat} {C : List (Nat × Nat)} {st : List Nat} {op : Nat} {c : CS} {m : MS} {d : Nat} (h2 : P2 S M n b t s0 tx0 d) (ho : op ≤ 8) (hd : 7 * (8 - op) + 1 ≤ d + 1) (hT1 : TN n ct s e nc nr) (hc : CC S ct s e nc C op c) (hm : CM M b t tx0 ct s e nr C st op 0 m) (hlen : C.length + st.length ≤ s) {T : List Bool} (hT : T.length ≤ 5 * op + 2) (hst : st.length ≤ 6 * op + 2) (hk : ct = 22) : Ok1 S M n b t s0 tx0 e op C st op T (wC_rd (d + 1) 2 c) m ∨ OutF S M t tx0 (wC_rd (d + 1) 2 c) m := by
  by_cases h8 : op = 8
  · refine Or.inr (OutF_now (f := 3) (by decide) hc hm (fun c' hF hr => ⟨c', hF, fun post hp => ?_⟩) (fun post hp => Lp_beginF hm post (f := 3) (by decide) (by decide) (fun post2 h2 => ?_) hp))
    · exact one_at hc hT1.2.2.2.2 d post (fun z => absurd (hk.symm.trans z) (by decide)) (fun _ => op_8 hc h8 hr _ (p_yes rfl hp)) (fun z => absurd (hk.symm.trans z) (by decide)) (fun z => absurd (hk.symm.trans z) (by decide)) (fun z => absurd (hk.symm.trans z) (by decide)) (fun z => absurd (hk.symm.trans z) (by decide)) (fun _ z _ _ _ _ => absurd hk z)
    · refine m_beginOne H hm hT1 (by omega) post2 ?_
      rw [if_neg (by omega), if_neg (by omega), if_neg (by omega), if_neg (by omega), if_neg (by omega), if_pos hk]
      exact m_opened8 hm h8 _ post2 h2
  · have sm := hT1.2.2.1 (by omega)
    have h300 := TN_300 H hT1
    obtain ⟨ct1, s1, e1, nc1, nr1, c1, m1, a1, a2, k1, k2, k3, k4⟩ := op_both H hT1 hc hm (by omega) (by omega) (x := 2) (by decide)
    have a21 := a2.1
    have B : ∀ post : Int32 → MS → Prop, Lp post m1 → Lp post m := by
      intro post h
      refine Lp_begin hm post (fun post2 h2 => ?_) h
      refine m_beginOne H hm hT1 (by omega) post2 ?_
      rw [if_neg (by omega), if_neg (by omega), if_neg (by omega), if_neg (by omega), if_neg (by omega), if_pos hk]
      exact k4 post2 h2
    rcases h2 (op + 1) ct1 s1 e1 nc1 nr1 C (2 :: st) T c1 m1 (by omega) (by omega) a2 k1 k2 (by show C.length + (st.length + 1) ≤ s1; omega) (by omega) (by show st.length + 1 ≤ _; omega) (fun _ => ask_no 2 st (by decide)) with ⟨ct2, s2, e2, nc2, nr2, E2, iw2, c2, m3, b1, b2, b3, b4, b5, b6, b7, b8⟩ | F
    · have h300' := TN_300 H b2
      have b5' : (C ++ E2).length + (st.length + 1) ≤ s2 := b5
      obtain ⟨c3, f1, f2⟩ := emC_ok b3 (by omega) (x := 2) (k := 22) rfl
      obtain ⟨m4, f3, f4⟩ := E1_pop H b4 (by omega) (by decide) (by omega) (by omega)
      rw [List.append_assoc] at f1 f3
      refine Or.inl ⟨ct2, s2, e2, nc2, nr2, E2 ++ [(2, 0)], iw2, c3, m4, by omega, b2, f1, f3, ?_, tyRun_two s0 E2 _ T _ _ b6 (tyRun_1 s0 _ _ _ rfl), fun post hp => ?_, fun post h => B post (b8 post (f4 post h))⟩
      · rw [← List.append_assoc, List.length_append]
        show (C ++ E2).length + 1 + st.length ≤ s2
        omega
      · exact one_at hc hT1.2.2.2.2 d post (fun z => absurd (hk.symm.trans z) (by decide)) (fun _ => k3 _ (p_no (by decide) (b7 _ (f2 post hp)))) (fun z => absurd (hk.symm.trans z) (by decide)) (fun z => absurd (hk.symm.trans z) (by decide)) (fun z => absurd (hk.symm.trans z) (by decide)) (fun z => absurd (hk.symm.trans z) (by decide)) (fun _ z _ _ _ _ => absurd hk z)
    · refine Or.inr (OutF_map F (fun f s' c' hf hF => ?_) B)
      obtain ⟨c3, f1, f2⟩ := emC_f hF 22
      refine ⟨c3, f1, fun hr post hp => ?_⟩
      exact one_at hc hT1.2.2.2.2 d post (fun z => absurd (hk.symm.trans z) (by decide)) (fun _ => k3 _ (p_no (by decide) (hr _ (f2 post hp)))) (fun z => absurd (hk.symm.trans z) (by decide)) (fun z => absurd (hk.symm.trans z) (by decide)) (fun z => absurd (hk.symm.trans z) (by decide)) (fun z => absurd (hk.symm.trans z) (by decide)) (fun _ z _ _ _ _ => absurd hk z)
theorem one_paren {S : CS} {M : MS} {n : Nat} {b : Nat → Nat} {t s0 : Nat} {tx0 : Nat → Int32} (H : HX S M n b t s0) {ct s e nc nr : Nat} {C : List (Nat × Nat)} {st : List Nat} {op : Nat} {c : CS} {m : MS} {d : Nat} (h0 : P0 S M n b t s0 tx0 d) (ho : op ≤ 8) (hd : 7 * (8 - op) + 1 ≤ d + 1) (hT1 : TN n ct s e nc nr) (hc : CC S ct s e nc C op c) (hm : CM M b t tx0 ct s e nr C st op 0 m) (hlen : C.length + st.length ≤ s) {T : List Bool} (hT : T.length ≤ 5 * op + 2) (hst : st.length ≤ 6 * op + 2) (hk : ct = 43) : Ok1 S M n b t s0 tx0 e op C st op T (wC_rd (d + 1) 2 c) m ∨ OutF S M t tx0 (wC_rd (d + 1) 2 c) m := by
  by_cases h8 : op = 8
  · refine Or.inr (OutF_now (f := 3) (by decide) hc hm (fun c' hF hr => ⟨c', hF, fun post hp => ?_⟩) (fun post hp => Lp_beginF hm post (f := 3) (by decide) (by decide) (fun post2 h2 => ?_) hp))
    · exact one_at hc hT1.2.2.2.2 d post (fun z => absurd (hk.symm.trans z) (by decide)) (fun z => absurd (hk.symm.trans z) (by decide)) (fun z => absurd (hk.symm.trans z) (by decide)) (fun z => absurd (hk.symm.trans z) (by decide)) (fun z => absurd (hk.symm.trans z) (by decide)) (fun _ => op_8 hc h8 hr _ (p_yes rfl hp)) (fun _ _ _ _ _ z => absurd hk z)
    · refine m_beginOne H hm hT1 (by omega) post2 ?_
      rw [if_neg (by omega), if_neg (by omega), if_pos hk]
      exact m_opened8 hm h8 _ post2 h2
  · have sm := hT1.2.2.1 (by omega)
    have h300 := TN_300 H hT1
    obtain ⟨ct1, s1, e1, nc1, nr1, c1, m1, a1, a2, k1, k2, k3, k4⟩ := op_both H hT1 hc hm (by omega) (by omega) (x := 40) (by decide)
    have a21 := a2.1
    have B : ∀ post : Int32 → MS → Prop, Lp post m1 → Lp post m := by
      intro post h
      refine Lp_begin hm post (fun post2 h2 => ?_) h
      refine m_beginOne H hm hT1 (by omega) post2 ?_
      rw [if_neg (by omega), if_neg (by omega), if_pos hk]
      exact k4 post2 h2
    rcases h0 (op + 1) ct1 s1 e1 nc1 nr1 C (40 :: st) T c1 m1 (by omega) (by omega) a2 k1 k2 (by show C.length + (st.length + 1) ≤ s1; omega) (by omega) (by show st.length + 1 ≤ _; omega) (show rkN 40 < 5 by decide) (show 40 ≠ 41 ∧ 40 ≠ 42 by decide) (fun _ => ask_no 40 st (by decide)) with ⟨ct2, s2, e2, nc2, nr2, E2, D2, A2, c2, m3, b1, b2, b3, b4, b5, b6, b7, b8, ⟨b9, b10, b11, b12⟩, b13, b14⟩ | F
    · have h300' := TN_300 H b2
      have b6' : (C ++ E2).length + (st.length + 1) ≤ s2 := b6
      have lenD : D2.length + A2.length = (C ++ E2).length := by
        rw [b5, List.length_append, show (opsL A2).length = A2.length from List.length_map _]
      have hlA : (A2 ++ 40 :: st).length < 160 := by
        rw [List.length_append]
        show A2.length + (st.length + 1) < 160
        omega
      obtain ⟨v1, v2⟩ := opV_app A2 40 st b8 (by decide)
      have bt : btI ct2 (A2 ++ 40 :: st) = -1 := by
        unfold btI
        rw [if_neg b9.1, if_neg b9.2.1, if_neg b9.2.2.1, if_neg b9.2.2.2, v1, if_neg (by decide)]
      by_cases q : ct2 = 44
      · obtain ⟨m4, g1, g2, g3⟩ := bh_part H (p := 40) b4 (by decide) (fun y hy => ⟨b8 y hy, by have := b10 y hy; omega⟩) hlA bt (by omega) (by omega) (by omega)
        obtain ⟨ct3, s3, e3, nc3, nr3, a3, a4, aC, aM⟩ := both_adv H (tx0 := tx0) b2
        have b21 := b2.1
        obtain ⟨c3, l1, l2⟩ := aC _ _ _ b3
        obtain ⟨m5, l3, l4⟩ := aM _ _ _ _ _ g1
        have pt : ptI ct2 (A2 ++ 40 :: st) = 0 := by
          unfold ptI
          rw [v1, if_pos (show nI 40 = 40 from rfl), if_pos q]
        obtain ⟨m6, l5, l6⟩ := (g3 pt (by omega) m5 (ct3, s3, e3, nr3) l4 l3).1 (by decide)
        rw [← b5, b12, show op + 1 + 0 - 0 - 1 = op by omega] at l5
        obtain ⟨c4, f1, f2⟩ := clo_ok l1
        refine Or.inl ⟨ct3, s3, e3, nc3, nr3, E2, 1, c4, m6, by omega, a4, f1, l5, by omega, b7, fun post hp => ?_, fun post h => B post (b14 post (Lp_behindE b4 post l6 h))⟩
        exact one_at hc hT1.2.2.2.2 d post (fun z => absurd (hk.symm.trans z) (by decide)) (fun z => absurd (hk.symm.trans z) (by decide)) (fun z => absurd (hk.symm.trans z) (by decide)) (fun z => absurd (hk.symm.trans z) (by decide)) (fun z => absurd (hk.symm.trans z) (by decide)) (fun _ => k3 _ (p_no (by decide) (b13 _ (ex_yes b3 (k := 44) rfl q l2 _ (f2 post hp))))) (fun _ _ _ _ _ z => absurd hk z)
      · have pt : ptI ct2 (A2 ++ 40 :: st) = -1 := by
          unfold ptI
          rw [v1, if_pos (show nI 40 = 40 from rfl), if_neg q]
        refine Or.inr (OutF_now (f := 1) (by decide) b3 b4 (fun c' hF hr => ?_) (fun post hp => B post (b14 post (Lp_stuck b4 (by omega) (by rw [v1]; decide) post (bh_none b4 (by omega) bt pt) hp))))
        obtain ⟨c4, f1, f2⟩ := clo_f hF
        refine ⟨c4, f1, fun post hp => ?_⟩
        exact one_at hc hT1.2.2.2.2 d post (fun z => absurd (hk.symm.trans z) (by decide)) (fun z => absurd (hk.symm.trans z) (by decide)) (fun z => absurd (hk.symm.trans z) (by decide)) (fun z => absurd (hk.symm.trans z) (by decide)) (fun z => absurd (hk.symm.trans z) (by decide)) (fun _ => k3 _ (p_no (by decide) (b13 _ (ex_no b3 (k := 44) rfl b2.2.2.2.2 (by decide) q hr _ (f2 post hp))))) (fun _ _ _ _ _ z => absurd hk z)
    · refine Or.inr (OutF_map F (fun f s' c' hf hF => ?_) B)
      obtain ⟨c3, f1, f2⟩ := clo_f hF
      refine ⟨c3, f1, fun hr post hp => ?_⟩
      exact one_at hc hT1.2.2.2.2 d post (fun z => absurd (hk.symm.trans z) (by decide)) (fun z => absurd (hk.symm.trans z) (by decide)) (fun z => absurd (hk.symm.trans z) (by decide)) (fun z => absurd (hk.symm.trans z) (by decide)) (fun z => absurd (hk.symm.trans z) (by decide)) (fun _ => k3 _ (p_no (by decide) (hr _ (fc_expect hf hF (by decide) _ (f2 post hp))))) (fun _ _ _ _ _ z => absurd hk z)
theorem one_if {S : CS} {M : MS} {n : Nat} {b : Nat → Nat} {t s0 : Nat} {tx0 : Nat → Int32} (H : HX S M n b t s0) {ct s e nc nr : Nat} {C : List (Nat × Nat)} {st : List Nat} {op : Nat} {c : CS} {m : MS} {d : Nat} (h3 : P3 S M n b t s0 tx0 d) (ho : op ≤ 8) (hd : 7 * (8 - op) + 1 ≤ d + 1) (hT1 : TN n ct s e nc nr) (hc : CC S ct s e nc C op c) (hm : CM M b t tx0 ct s e nr C st op 0 m) (hlen : C.length + st.length ≤ s) {T : List Bool} (hT : T.length ≤ 5 * op + 2) (hst : st.length ≤ 6 * op + 2) (hk : ct = 23) : Ok1 S M n b t s0 tx0 e op C st op T (wC_rd (d + 1) 2 c) m ∨ OutF S M t tx0 (wC_rd (d + 1) 2 c) m := by
  by_cases h8 : op = 8
  · refine Or.inr (OutF_now (f := 3) (by decide) hc hm (fun c' hF hr => ⟨c', hF, fun post hp => ?_⟩) (fun post hp => Lp_beginF hm post (f := 3) (by decide) (by decide) (fun post2 h2 => ?_) hp))
    · exact one_at hc hT1.2.2.2.2 d post (fun z => absurd (hk.symm.trans z) (by decide)) (fun z => absurd (hk.symm.trans z) (by decide)) (fun _ => op_8 hc h8 hr _ (p_yes rfl hp)) (fun z => absurd (hk.symm.trans z) (by decide)) (fun z => absurd (hk.symm.trans z) (by decide)) (fun z => absurd (hk.symm.trans z) (by decide)) (fun _ _ z _ _ _ => absurd hk z)
    · refine m_beginOne H hm hT1 (by omega) post2 ?_
      rw [if_neg (by omega), if_neg (by omega), if_neg (by omega), if_neg (by omega), if_neg (by omega), if_neg (by omega), if_pos hk]
      exact m_opened8 hm h8 _ post2 h2
  · have sm := hT1.2.2.1 (by omega)
    have h300 := TN_300 H hT1
    obtain ⟨ct1, s1, e1, nc1, nr1, c1, m1, a1, a2, k1, k2, k3, k4⟩ := op_both H hT1 hc hm (by omega) (by omega) (x := 43) (by decide)
    have a21 := a2.1
    have B : ∀ post : Int32 → MS → Prop, Lp post m1 → Lp post m := by
      intro post h
      refine Lp_begin hm post (fun post2 h2 => ?_) h
      refine m_beginOne H hm hT1 (by omega) post2 ?_
      rw [if_neg (by omega), if_neg (by omega), if_neg (by omega), if_neg (by omega), if_neg (by omega), if_neg (by omega), if_pos hk]
      exact k4 post2 h2
    rcases h3 (op + 1) ct1 s1 e1 nc1 nr1 C st T c1 m1 (by omega) (by omega) (by omega) a2 k1 k2 (by omega) (by omega) (by omega) with ⟨ct2, s2, e2, nc2, nr2, E2, iw2, c2, m3, b1, b2, b3, b4, b5, b6, b7, b8⟩ | F
    · obtain ⟨c4, f1, f2⟩ := clo_ok b3
      rw [show op + 1 - 1 = op by omega] at b4
      refine Or.inl ⟨ct2, s2, e2, nc2, nr2, E2, iw2, c4, m3, by omega, b2, f1, b4, b5, b6, fun post hp => ?_, fun post h => B post (b8 post h)⟩
      exact one_at hc hT1.2.2.2.2 d post (fun z => absurd (hk.symm.trans z) (by decide)) (fun z => absurd (hk.symm.trans z) (by decide)) (fun _ => k3 _ (p_no (by decide) (b7 _ (f2 post hp)))) (fun z => absurd (hk.symm.trans z) (by decide)) (fun z => absurd (hk.symm.trans z) (by decide)) (fun z => absurd (hk.symm.trans z) (by decide)) (fun _ _ z _ _ _ => absurd hk z)
    · refine Or.inr (OutF_map F (fun f s' c' hf hF => ?_) B)
      obtain ⟨c3, f1, f2⟩ := clo_f hF
      refine ⟨c3, f1, fun hr post hp => ?_⟩
      exact one_at hc hT1.2.2.2.2 d post (fun z => absurd (hk.symm.trans z) (by decide)) (fun z => absurd (hk.symm.trans z) (by decide)) (fun _ => k3 _ (p_no (by decide) (hr _ (f2 post hp)))) (fun z => absurd (hk.symm.trans z) (by decide)) (fun z => absurd (hk.symm.trans z) (by decide)) (fun z => absurd (hk.symm.trans z) (by decide)) (fun _ _ z _ _ _ => absurd hk z)
