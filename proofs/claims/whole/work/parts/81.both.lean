/-! PURE LAYER: both readers in step: choice; all of it -/
def ch3 (d : Nat) (post : CS → Prop) (S_10 : CS) : Prop := wC_X6_expect 26 S_10 (fun S_12 => wC_X6_emit 23 0 S_12 (fun S_14 => post S_14))
def ch2 (d : Nat) (post : CS → Prop) (S_6 : CS) : Prop := wC_X6_expect 25 S_6 (fun S_8 => wC_rd d 0 S_8 (fun S_10 => ch3 d post S_10))
def ch1 (d : Nat) (post : CS → Prop) (S_2 : CS) : Prop := wC_X6_expect 24 S_2 (fun S_4 => wC_rd d 0 S_4 (fun S_6 => ch2 d post S_6))
theorem ch3_f {S : CS} {f s : Nat} (hf : 0 < f ∧ f < 9) {c : CS} (h : FCs S f s c) {d : Nat} (hd : 6 ≤ d) : ∃ c', FCs S f s c' ∧ ∀ post : CS → Prop, post c' → ch3 d post c := by
  obtain ⟨c1, a1, a2⟩ := fc_emit h 23 0
  exact ⟨c1, a1, fun post hp => fc_expect hf h (by decide) _ (a2 _ hp)⟩
theorem cr2_f {S : CS} {f s : Nat} (hf : 0 < f ∧ f < 9) {c : CS} (h : FCs S f s c) {d : Nat} (hd : 6 ≤ d) : ∃ c', FCs S f s c' ∧ ∀ post : CS → Prop, post c' → wC_rd d 0 c (fun S_10 => ch3 d post S_10) := by
  obtain ⟨c1, a1, a2⟩ := ch3_f hf h hd
  exact ⟨c1, a1, fun post hp => fc_sum hf h (by omega) _ (a2 post hp)⟩
theorem ch2_f {S : CS} {f s : Nat} (hf : 0 < f ∧ f < 9) {c : CS} (h : FCs S f s c) {d : Nat} (hd : 6 ≤ d) : ∃ c', FCs S f s c' ∧ ∀ post : CS → Prop, post c' → ch2 d post c := by
  obtain ⟨c1, a1, a2⟩ := cr2_f hf h hd
  exact ⟨c1, a1, fun post hp => fc_expect hf h (by decide) _ (a2 post hp)⟩
theorem cr1_f {S : CS} {f s : Nat} (hf : 0 < f ∧ f < 9) {c : CS} (h : FCs S f s c) {d : Nat} (hd : 6 ≤ d) : ∃ c', FCs S f s c' ∧ ∀ post : CS → Prop, post c' → wC_rd d 0 c (fun S_6 => ch2 d post S_6) := by
  obtain ⟨c1, a1, a2⟩ := ch2_f hf h hd
  exact ⟨c1, a1, fun post hp => fc_sum hf h (by omega) _ (a2 post hp)⟩
theorem ch1_f {S : CS} {f s : Nat} (hf : 0 < f ∧ f < 9) {c : CS} (h : FCs S f s c) {d : Nat} (hd : 6 ≤ d) : ∃ c', FCs S f s c' ∧ ∀ post : CS → Prop, post c' → ch1 d post c := by
  obtain ⟨c1, a1, a2⟩ := cr1_f hf h hd
  exact ⟨c1, a1, fun post hp => fc_expect hf h (by decide) _ (a2 post hp)⟩
theorem step_3 {S : CS} {M : MS} {n : Nat} {b : Nat → Nat} {t s0 : Nat} {tx0 : Nat → Int32} (H : HX S M n b t s0) {d : Nat} (h4 : P4 S M n b t s0 tx0 d) (h0 : P0 S M n b t s0 tx0 d) : P3 S M n b t s0 tx0 (d + 1) := by
  intro op ct s e nc nr C st T c m ho ho1 hd hT1 hc hm hlen hT hst
  have h300 := TN_300 H hT1
  have h21 := hT1.1
  have dd : 6 ≤ d := by omega
  have W : ∀ post : CS → Prop, wC_rd d 4 c (fun S_2 => ch1 d post S_2) → wC_rd (d + 1) 3 c post := fun post h => h
  rcases h4 op ct s e nc nr C (43 :: st) T c m ho (by omega) hT1 hc hm hlen (by omega) (by show st.length + 1 + 3 ≤ _; omega) ⟨Or.inl rfl, by decide, if_pos (by decide)⟩ with ⟨ct2, s2, e2, nc2, nr2, E2, D2, A2, c2, m2, b1, b2, b3, b4, b5, b6, b7, b8, ⟨b9, b10, b11, b12, b13⟩, b14, b15⟩ | F
  · have h302 := TN_300 H b2
    have b21 := b2.1
    have b6' : (C ++ E2).length + (st.length + 1) ≤ s2 := b6
    have lenD : D2.length + A2.length = (C ++ E2).length := by
      rw [b5, List.length_append, show (opsL A2).length = A2.length from List.length_map _]
    have hlA : (A2 ++ 43 :: st).length < 160 := by
      rw [List.length_append]
      show A2.length + (st.length + 1) < 160
      omega
    have cl := cntO_le A2
    obtain ⟨v1, v2⟩ := opV_app A2 43 st b8 (by decide)
    have v1' : opV (A2 ++ 43 :: st) = 43 := v1
    have bt : btI ct2 (A2 ++ 43 :: st) = -1 := by
      unfold btI
      rw [if_neg b9.1, if_neg b9.2.1, if_neg b9.2.2.1, if_neg b9.2.2.2, if_pos v1', if_pos b13, if_neg b10.1, if_neg b10.2]
    by_cases q : ct2 = 24
    · have pt : ptI ct2 (A2 ++ 43 :: st) = nI 44 := by
        unfold ptI
        rw [v1', if_neg (by decide), if_pos rfl, if_pos ⟨q, b13⟩]
        rfl
      obtain ⟨m3, g1, g2, g3⟩ := bh_part H (p := 43) b4 (by decide) (fun y hy => ⟨b8 y hy, b11 y hy⟩) hlA bt (by omega) (by omega) (by omega)
      obtain ⟨ct3, s3, e3, nc3, nr3, a3, a4, aC, aM⟩ := both_adv H (tx0 := tx0) b2
      have a41 := a4.1
      have sm2 := b2.2.2.1 (by omega)
      obtain ⟨c3, l1, l2⟩ := aC _ _ _ b3
      obtain ⟨m4, l3, l4⟩ := aM _ _ _ _ _ g1
      obtain ⟨m5, l5, l6⟩ := g2 44 (Or.inl rfl) pt m4 (ct3, s3, e3, nr3) l4 l3
      rw [← b5, Nat.add_sub_cancel] at l5
      have B2 : ∀ post : Int32 → MS → Prop, Lp post m5 → Lp post m := fun post h => b15 post (Lp_behind b4 post l6 h)
      have W2 : ∀ post : CS → Prop, wC_rd d 0 c3 (fun S_6 => ch2 d post S_6) → wC_rd (d + 1) 3 c post := fun post h => W post (b14 _ (ex_yes b3 (k := 24) rfl q l2 _ h))
      rcases h0 op ct3 s3 e3 nc3 nr3 (C ++ E2) (44 :: st) (false :: T) c3 m5 ho (by omega) a4 l1 l5 (by show (C ++ E2).length + (st.length + 1) ≤ s3; omega) (by show T.length + 1 ≤ _; omega) (by show st.length + 1 ≤ _; omega) (show rkN 44 < 5 by decide) (show 44 ≠ 41 ∧ 44 ≠ 42 by decide) (fun _ => ask_no 44 st (by decide)) with ⟨ct4, s4, e4, nc4, nr4, E4, D4, A4, c4, m6, d1, d2, d3, d4, d5, d6, d7, d8, ⟨d9, d10, d11, d12⟩, d13, d14⟩ | F
      · have h304 := TN_300 H d2
        have d21 := d2.1
        have d6' : (C ++ E2 ++ E4).length + (st.length + 1) ≤ s4 := d6
        have lenD4 : D4.length + A4.length = (C ++ E2 ++ E4).length := by
          rw [d5, List.length_append, show (opsL A4).length = A4.length from List.length_map _]
        have hlA4 : (A4 ++ 44 :: st).length < 160 := by
          rw [List.length_append]
          show A4.length + (st.length + 1) < 160
          omega
        obtain ⟨w1, w2⟩ := opV_app A4 44 st d8 (by decide)
        have bt4 : btI ct4 (A4 ++ 44 :: st) = -1 := by
          unfold btI
          rw [if_neg d9.1, if_neg d9.2.1, if_neg d9.2.2.1, if_neg d9.2.2.2, w1, if_neg (by decide)]
        by_cases q4 : ct4 = 25
        · have pt4 : ptI ct4 (A4 ++ 44 :: st) = nI 45 := by
            unfold ptI
            rw [w1, if_neg (by decide), if_neg (by decide), if_pos (show nI 44 = 44 from rfl), if_pos q4]
            rfl
          obtain ⟨m7, j1, j2, j3⟩ := bh_part H (p := 44) d4 (by decide) (fun y hy => ⟨d8 y hy, by have := d10 y hy; omega⟩) hlA4 bt4 (by omega) (by omega) (by omega)
          obtain ⟨ct5, s5, e5, nc5, nr5, a5, a6, aC2, aM2⟩ := both_adv H (tx0 := tx0) d2
          have a61 := a6.1
          have sm4 := d2.2.2.1 (by omega)
          obtain ⟨c5, n1, n2⟩ := aC2 _ _ _ d3
          obtain ⟨m8, n3, n4⟩ := aM2 _ _ _ _ _ j1
          obtain ⟨m9, n5, n6⟩ := j2 45 (Or.inr rfl) pt4 m8 (ct5, s5, e5, nr5) n4 n3
          rw [← d5, Nat.add_sub_cancel] at n5
          have B3 : ∀ post : Int32 → MS → Prop, Lp post m9 → Lp post m := fun post h => B2 post (d14 post (Lp_behind d4 post n6 h))
          have W3 : ∀ post : CS → Prop, wC_rd d 0 c5 (fun S_10 => ch3 d post S_10) → wC_rd (d + 1) 3 c post := fun post h => W2 post (d13 _ (ex_yes d3 (k := 25) rfl q4 n2 _ h))
          rcases h0 op ct5 s5 e5 nc5 nr5 (C ++ E2 ++ E4) (45 :: st) (true :: false :: T) c5 m9 ho (by omega) a6 n1 n5 (by show (C ++ E2 ++ E4).length + (st.length + 1) ≤ s5; omega) (by show T.length + 1 + 1 ≤ _; omega) (by show st.length + 1 ≤ _; omega) (show rkN 45 < 5 by decide) (show 45 ≠ 41 ∧ 45 ≠ 42 by decide) (fun _ => ask_no 45 st (by decide)) with ⟨ct6, s6, e6, nc6, nr6, E6, D6, A6, c6, m10, f1, f2, f3, f4, f5, f6, f7, f8, ⟨f9, f10, f11, f12⟩, f13, f14⟩ | F
          · have h306 := TN_300 H f2
            have f21 := f2.1
            have f6' : (C ++ E2 ++ E4 ++ E6).length + (st.length + 1) ≤ s6 := f6
            have lenD6 : D6.length + A6.length = (C ++ E2 ++ E4 ++ E6).length := by
              rw [f5, List.length_append, show (opsL A6).length = A6.length from List.length_map _]
            have hlA6 : (A6 ++ 45 :: st).length < 160 := by
              rw [List.length_append]
              show A6.length + (st.length + 1) < 160
              omega
            obtain ⟨y1, y2⟩ := opV_app A6 45 st f8 (by decide)
            have bt6 : btI ct6 (A6 ++ 45 :: st) = -1 := by
              unfold btI
              rw [if_neg f9.1, if_neg f9.2.1, if_neg f9.2.2.1, if_neg f9.2.2.2, y1, if_neg (by decide)]
            by_cases q6 : ct6 = 26
            · have pt6 : ptI ct6 (A6 ++ 45 :: st) = 0 := by
                unfold ptI
                rw [y1, if_neg (by decide), if_neg (by decide), if_neg (by decide), if_pos (show nI 45 = 45 from rfl), if_pos q6]
              obtain ⟨m11, r1, r2, r3⟩ := bh_part H (p := 45) f4 (by decide) (fun y hy => ⟨f8 y hy, by have := f10 y hy; omega⟩) hlA6 bt6 (by omega) (by omega) (by omega)
              obtain ⟨ct7, s7, e7, nc7, nr7, a7, a8, aC3, aM3⟩ := both_adv H (tx0 := tx0) f2
              obtain ⟨c7, p1, p2⟩ := aC3 _ _ _ f3
              obtain ⟨m12, p3, p4⟩ := aM3 _ _ _ _ _ r1
              obtain ⟨m13, p5, p6⟩ := (r3 pt6 (by omega) m12 (ct7, s7, e7, nr7) p4 p3).2 rfl (by rw [← f5]; omega)
              rw [← f5, Nat.add_sub_cancel] at p5
              obtain ⟨c8, x1, x2⟩ := CC_emit p1 (by omega) 3 0
              have eC : C ++ E2 ++ E4 ++ E6 ++ [(3, 0)] = C ++ (E2 ++ E4 ++ E6 ++ [(3, 0)]) := by
                simp only [List.append_assoc]
              have ln : (C ++ E2 ++ E4 ++ E6 ++ [(3, 0)]).length + st.length ≤ s7 := by
                rw [List.length_append]
                show (C ++ E2 ++ E4 ++ E6).length + 1 + st.length ≤ s7
                omega
              rw [eC] at p5 x1 ln
              exact Or.inl ⟨ct7, s7, e7, nc7, nr7, E2 ++ E4 ++ E6 ++ [(3, 0)], 1, c8, m13, by omega, a8, x1, p5, ln, tyRun_two s0 _ _ T _ _ (tyRun_two s0 _ _ T _ _ (tyRun_two s0 _ _ T _ _ b7 d7) f7) (tyRun_1 s0 _ _ _ rfl), fun post hp => W3 post (f13 _ (ex_yes f3 (k := 26) rfl q6 p2 _ (x2 _ hp))), fun post h => B3 post (f14 post (Lp_behindE f4 post p6 h))⟩
            · have pt6 : ptI ct6 (A6 ++ 45 :: st) = -1 := by
                unfold ptI
                rw [y1, if_neg (by decide), if_neg (by decide), if_neg (by decide), if_pos (show nI 45 = 45 from rfl), if_neg q6]
              refine Or.inr (OutF_now (f := 1) (by decide) f3 f4 (fun c' hF hr => ?_) (fun post hp => B3 post (f14 post (Lp_stuck f4 (by omega) (by rw [y1]; decide) post (bh_none f4 (by omega) bt6 pt6) hp))))
              obtain ⟨c7, x1, x2⟩ := fc_emit hF 23 0
              exact ⟨c7, x1, fun post hp => W3 post (f13 _ (ex_no f3 (k := 26) rfl f2.2.2.2.2 (by decide) q6 hr _ (x2 _ hp)))⟩
          · refine Or.inr (OutF_map F (fun f s' c' hf hF => ?_) B3)
            obtain ⟨c7, x1, x2⟩ := ch3_f hf hF dd
            exact ⟨c7, x1, fun hr post hp => W3 post (hr _ (x2 post hp))⟩
        · have pt4 : ptI ct4 (A4 ++ 44 :: st) = -1 := by
            unfold ptI
            rw [w1, if_neg (by decide), if_neg (by decide), if_pos (show nI 44 = 44 from rfl), if_neg q4]
          refine Or.inr (OutF_now (f := 1) (by decide) d3 d4 (fun c' hF hr => ?_) (fun post hp => B2 post (d14 post (Lp_stuck d4 (by omega) (by rw [w1]; decide) post (bh_none d4 (by omega) bt4 pt4) hp))))
          obtain ⟨c7, x1, x2⟩ := cr2_f (by decide) hF dd
          exact ⟨c7, x1, fun post hp => W2 post (d13 _ (ex_no d3 (k := 25) rfl d2.2.2.2.2 (by decide) q4 hr _ (x2 post hp)))⟩
      · refine Or.inr (OutF_map F (fun f s' c' hf hF => ?_) B2)
        obtain ⟨c7, x1, x2⟩ := ch2_f hf hF dd
        exact ⟨c7, x1, fun hr post hp => W2 post (hr _ (x2 post hp))⟩
    · have pt : ptI ct2 (A2 ++ 43 :: st) = -1 := by
        unfold ptI
        rw [v1', if_neg (by decide), if_pos rfl, if_neg (fun z => q z.1)]
      refine Or.inr (OutF_now (f := 1) (by decide) b3 b4 (fun c' hF hr => ?_) (fun post hp => b15 post (Lp_stuck b4 (by omega) (by rw [v1]; decide) post (bh_none b4 (by omega) bt pt) hp)))
      obtain ⟨c7, x1, x2⟩ := cr1_f (by decide) hF dd
      exact ⟨c7, x1, fun post hp => W post (b14 _ (ex_no b3 (k := 24) rfl b2.2.2.2.2 (by decide) q hr _ (x2 post hp)))⟩
  · refine Or.inr (OutF_map F (fun f s' c' hf hF => ?_) (fun post h => h))
    obtain ⟨c7, x1, x2⟩ := ch1_f hf hF dd
    exact ⟨c7, x1, fun hr post hp => W post (hr _ (x2 post hp))⟩
theorem rd_all {S : CS} {M : MS} {n : Nat} {b : Nat → Nat} {t s0 : Nat} {tx0 : Nat → Int32} (H : HX S M n b t s0) : ∀ d, P2 S M n b t s0 tx0 d ∧ P1 S M n b t s0 tx0 d ∧ P0 S M n b t s0 tx0 d ∧ P3 S M n b t s0 tx0 d ∧ P6 S M n b t s0 tx0 d ∧ P5 S M n b t s0 tx0 d ∧ P4 S M n b t s0 tx0 d := by
  intro d
  induction d with
  | zero =>
    refine ⟨?_, ?_, ?_, ?_, ?_, ?_, ?_⟩
    · intro op ct s e nc nr C st T c m ho hd
      omega
    · intro op ct s e nc nr C st T c m ho hd
      omega
    · intro op ct s e nc nr C st T c m ho hd
      omega
    · intro op ct s e nc nr C st T c m ho ho1 hd
      omega
    · intro op ct s e nc nr C st T c m ho hd
      omega
    · intro op ct s e nc nr C st T c m ho hd
      omega
    · intro op ct s e nc nr C st T c m ho hd
      omega
  | succ d ih =>
    obtain ⟨i2, i1, i0, i3, i6, i5, i4⟩ := ih
    exact ⟨step_2 H i2 i0 i3, step_1 H i2, step_0 H i1, step_3 H i4 i0, step_6 H i6 i0, step_5 H i6, step_4 H i5⟩
