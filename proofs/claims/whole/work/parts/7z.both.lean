/-! PURE LAYER: both readers in step: asks -/
/-- an ask stands ahead: the pile's head ranks below r, and the open part is the ask's -/
def hdI (r : Nat) : List Nat → Prop
  | [] => False
  | x :: l => (x = 43 ∨ x = 20 ∨ x = 21 ∨ x = 22) ∧ rkN x < r ∧ opV (x :: l) = 43
def P6 (S : CS) (M : MS) (n : Nat) (b : Nat → Nat) (t s0 : Nat) (tx0 : Nat → Int32) (d : Nat) : Prop := ∀ (op ct s e nc nr : Nat) (C : List (Nat × Nat)) (st : List Nat) (T : List Bool) (c : CS) (m : MS), op ≤ 8 → 7 * (8 - op) + 4 ≤ d → TN n ct s e nc nr → CC S ct s e nc C op c → CM M b t tx0 ct s e nr C st op 0 m → C.length + st.length ≤ s → T.length + 1 ≤ 5 * op → st.length + 1 ≤ 6 * op → hdI 4 st → OkX S M n b t s0 tx0 e op C st T false (fun ct' A => (ct' ≠ 39 ∧ ct' ≠ 40 ∧ ct' ≠ 41 ∧ ct' ≠ 42) ∧ (True) ∧ (∀ y, y ∈ A → 3 ≤ rkN y) ∧ A.length + op ≤ 11 ∧ cmB (A ++ st) = true) (wC_rd d 6 c) m ∨ OutF S M t tx0 (wC_rd d 6 c) m
def P5 (S : CS) (M : MS) (n : Nat) (b : Nat → Nat) (t s0 : Nat) (tx0 : Nat → Int32) (d : Nat) : Prop := ∀ (op ct s e nc nr : Nat) (C : List (Nat × Nat)) (st : List Nat) (T : List Bool) (c : CS) (m : MS), op ≤ 8 → 7 * (8 - op) + 5 ≤ d → TN n ct s e nc nr → CC S ct s e nc C op c → CM M b t tx0 ct s e nr C st op 0 m → C.length + st.length ≤ s → T.length + 2 ≤ 5 * op → st.length + 2 ≤ 6 * op → hdI 2 st → OkX S M n b t s0 tx0 e op C st T false (fun ct' A => (ct' ≠ 39 ∧ ct' ≠ 40 ∧ ct' ≠ 41 ∧ ct' ≠ 42) ∧ (ct' ≠ 28) ∧ (∀ y, y ∈ A → 2 ≤ rkN y) ∧ A.length + op ≤ 12 ∧ cmB (A ++ st) = true) (wC_rd d 5 c) m ∨ OutF S M t tx0 (wC_rd d 5 c) m
def P4 (S : CS) (M : MS) (n : Nat) (b : Nat → Nat) (t s0 : Nat) (tx0 : Nat → Int32) (d : Nat) : Prop := ∀ (op ct s e nc nr : Nat) (C : List (Nat × Nat)) (st : List Nat) (T : List Bool) (c : CS) (m : MS), op ≤ 8 → 7 * (8 - op) + 6 ≤ d → TN n ct s e nc nr → CC S ct s e nc C op c → CM M b t tx0 ct s e nr C st op 0 m → C.length + st.length ≤ s → T.length + 3 ≤ 5 * op → st.length + 3 ≤ 6 * op → hdI 1 st → OkX S M n b t s0 tx0 e op C st T false (fun ct' A => (ct' ≠ 39 ∧ ct' ≠ 40 ∧ ct' ≠ 41 ∧ ct' ≠ 42) ∧ (ct' ≠ 28 ∧ ct' ≠ 27) ∧ (∀ y, y ∈ A → 1 ≤ rkN y) ∧ A.length + op ≤ 13 ∧ cmB (A ++ st) = true) (wC_rd d 4 c) m ∨ OutF S M t tx0 (wC_rd d 4 c) m
theorem hdI_all {r : Nat} {st : List Nat} (h : hdI r st) : lowH r st ∧ hd12 st ∧ askA st = true ∧ cmB st = false ∧ opV st = 43 ∧ lowH 5 st := by
  cases st with
  | nil => exact absurd h (fun z => z)
  | cons x l =>
    obtain ⟨h1, h2, h3⟩ := h
    have r1 : rkN x ≤ 3 ∧ (40 ≤ x ∨ 1 ≤ rkN x) ∧ x ≠ 41 ∧ x ≠ 42 := by
      rcases h1 with z | z | z | z <;> rw [z] <;> decide
    refine ⟨h2, r1.2.2, ?_, ?_, h3, show rkN x < 5 by omega⟩
    · show (decide (opV (x :: l) = 43) && (decide (40 ≤ x) || (decide (1 ≤ rkN x) && decide (rkN x ≤ 3)))) = true
      rw [decide_eq_true h3, decide_eq_true r1.1, Bool.and_true, Bool.true_and]
      rcases r1.2.1 with z | z
      · rw [decide_eq_true z, Bool.true_or]
      · rw [decide_eq_true z, Bool.or_true]
    · show (if rkN x ≤ 4 then rkN x == 4 else cmB l) = false
      rw [if_pos (by omega)]
      exact beq_false_of_ne (by omega)
theorem hdI_put {r q x : Nat} {st : List Nat} (h : hdI r st) (hx : x = 20 ∨ x = 21 ∨ x = 22) (hr : rkN x < q) : hdI q (x :: st) := by
  refine ⟨Or.inr hx, hr, ?_⟩
  show (if 40 ≤ x then nI x else opV st) = 43
  rw [if_neg (by omega)]
  exact (hdI_all h).2.2.2.2.1
theorem opV_skip : ∀ (A : List Nat) (st : List Nat), (∀ y, y ∈ A → y < 40) → opV (A ++ st) = opV st := by
  intro A st
  induction A with
  | nil => exact fun _ => rfl
  | cons x A ih =>
    intro h
    have hx := h x List.mem_cons_self
    show (if 40 ≤ x then nI x else opV (A ++ st)) = opV st
    rw [if_neg (by omega)]
    exact ih (fun y hy => h y (List.mem_cons_of_mem _ hy))
theorem cmB_skip : ∀ (A : List Nat) (st : List Nat), (∀ y, y ∈ A → 5 ≤ rkN y) → cmB (A ++ st) = cmB st := by
  intro A st
  induction A with
  | nil => exact fun _ => rfl
  | cons x A ih =>
    intro h
    have hx := h x List.mem_cons_self
    show (if rkN x ≤ 4 then rkN x == 4 else cmB (A ++ st)) = cmB st
    rw [if_neg (by omega)]
    exact ih (fun y hy => h y (List.mem_cons_of_mem _ hy))
theorem cntO_le : ∀ A : List Nat, cntO A ≤ A.length := by
  intro A
  induction A with
  | nil => exact Nat.le_refl 0
  | cons x A ih =>
    show (if rkN x = 7 ∨ x = 20 then 1 else 0) + cntO A ≤ A.length + 1
    split <;> omega
theorem mem_1 {p : Nat → Prop} {A : List Nat} {x : Nat} (h : ∀ y, y ∈ A → p y) (hx : p x) : ∀ y, y ∈ A ++ [x] → p y := by
  intro y hy
  rcases List.mem_append.mp hy with z | z
  · exact h y z
  · rw [List.mem_singleton.mp z]
    exact hx
theorem cp_tab : ∀ c, c < 39 → 33 ≤ c → cpN c < 40 ∧ rkN (cpN c) = 4 ∧ opC (cpN c) = c ∧ 10 ≤ cpN c ∧ cpN c ≤ 15 := by decide +kernel
theorem ty_cmp {s0 x : Nat} (h : 10 ≤ x ∧ x ≤ 15) (T : List Bool) : tyStep s0 (x, 0) (true :: true :: T) = some (false :: T) := by
  obtain ⟨h1, h2⟩ := h
  have e : x = 10 ∨ x = 11 ∨ x = 12 ∨ x = 13 ∨ x = 14 ∨ x = 15 := by omega
  rcases e with z | z | z | z | z | z <;> rw [z] <;> rfl
theorem step_6 {S : CS} {M : MS} {n : Nat} {b : Nat → Nat} {t s0 : Nat} {tx0 : Nat → Int32} (H : HX S M n b t s0) {d : Nat} (h6 : P6 S M n b t s0 tx0 d) (h0 : P0 S M n b t s0 tx0 d) : P6 S M n b t s0 tx0 (d + 1) := by
  intro op ct s e nc nr C st T c m ho hd hT1 hc hm hlen hT hst hI
  obtain ⟨t1, t2, t3, t4, t5, t6⟩ := CC_token hc
  obtain ⟨i1, i2, i3, i4, i5, i6⟩ := hdI_all hI
  have h300 := TN_300 H hT1
  have h45 := hT1.2.2.2.2
  have e29 : (nI ct = 29) = (ct = 29) := propext (nI_eq (b := 29) (by omega) (by decide))
  by_cases k29 : ct = 29
  · have Wn : ∀ post : CS → Prop, wC_X6_opens c (fun r_16 S_17 => ((r_16 = 0 → post S_17) ∧ (¬ (r_16 = 0) → wC_rd d 6 S_17 (fun S_20 => emC 29 post S_20)))) → wC_rd (d + 1) 6 c post := by
      intro post h
      unfold emC clo at h
      show wB_X6_readAsk (wC_rd d) c post
      unfold wB_X6_readAsk
      rw [t1, e29]
      exact p_yes k29 h
    have beg : ∀ post2 : Int32 → MS → Prop, wM_opened (nI 20) m post2 → wM_beginOne m post2 := by
      intro post2 h2
      refine m_beginOne H hm hT1 (by omega) post2 ?_
      rw [if_neg (by omega), if_neg (by omega), if_neg (by omega), if_neg (by omega), if_neg (by omega), if_neg (by omega), if_neg (by omega), if_pos ⟨k29, i3⟩]
      exact h2
    by_cases h8 : op = 8
    · refine Or.inr (OutF_now (f := 3) (by decide) hc hm (fun c' hF hr => ⟨c', hF, fun post hp => Wn post (op_8 hc h8 hr _ (p_yes rfl hp))⟩) (fun post hp => Lp_beginF hm post (f := 3) (by decide) (by decide) (fun post2 h2 => beg post2 (m_opened8 hm h8 _ post2 h2)) hp))
    · have sm := hT1.2.2.1 (by omega)
      obtain ⟨ct1, s1, e1, nc1, nr1, c1, m1, a1, a2, k1, k2, k3, k4⟩ := op_both H hT1 hc hm (by omega) (by omega) (x := 20) (by decide)
      have a21 := a2.1
      have B : ∀ post : Int32 → MS → Prop, Lp post m1 → Lp post m := fun post h => Lp_begin hm post (fun post2 h2 => beg post2 (k4 post2 h2)) h
      have W : ∀ post : CS → Prop, wC_rd d 6 c1 (fun S_20 => emC 29 post S_20) → wC_rd (d + 1) 6 c post := fun post h => Wn post (k3 _ (p_no (by decide) h))
      rcases h6 (op + 1) ct1 s1 e1 nc1 nr1 C (20 :: st) T c1 m1 (by omega) (by omega) a2 k1 k2 (by show C.length + (st.length + 1) ≤ s1; omega) (by omega) (by show st.length + 1 + 1 ≤ _; omega) (hdI_put hI (Or.inl rfl) (by decide)) with ⟨ct2, s2, e2, nc2, nr2, E2, D2, A2, c2, m3, b1, b2, b3, b4, b5, b6, b7, b8, ⟨b9, b10, b11, b12, b13⟩, b14, b15⟩ | F
      · have h300' := TN_300 H b2
        have b6' : (C ++ E2).length + (st.length + 1) ≤ s2 := b6
        obtain ⟨c3, f1, f2⟩ := emC_ok b3 (by omega) (x := 20) (k := 29) rfl
        have cn : op + cntO (A2 ++ [20]) = op + 1 + cntO A2 := by
          rw [cntO_app, show cntO [20] = 1 from rfl]
          omega
        have eC : C ++ E2 ++ [(20, 0)] = C ++ (E2 ++ [(20, 0)]) := List.append_assoc _ _ _
        rw [app_1, ← cn] at b4
        rw [app_1] at b13
        rw [eC] at f1
        refine Or.inl ⟨ct2, s2, e2, nc2, nr2, E2 ++ [(20, 0)], D2, A2 ++ [20], c3, m3, by omega, b2, f1, b4, ?_, ?_, tyRun_two s0 E2 _ T _ _ b7 (tyRun_1 s0 _ _ _ rfl), mem_1 b8 (by decide), ⟨b9, trivial, mem_1 b11 (by decide), ?_, b13⟩, fun post hp => W post (b14 _ (f2 post hp)), fun post h => B post (b15 post h)⟩
        · rw [← eC, b5, opsL_app, List.append_assoc]
        · rw [← eC, List.length_append]
          show (C ++ E2).length + 1 + st.length ≤ s2
          omega
        · rw [List.length_append]
          show A2.length + 1 + op ≤ 11
          omega
      · refine Or.inr (OutF_map F (fun f s' c' hf hF => ?_) B)
        obtain ⟨c3, f1, f2⟩ := emC_f hF 29
        exact ⟨c3, f1, fun hr post hp => W post (hr _ (f2 post hp))⟩
  · have W : ∀ post : CS → Prop, wC_rd d 0 c (fun S_3 => (((cx_r_token S_3) < 33 → wC_X6_fail 1 S_3 (fun S_6 => post S_6)) ∧ (¬ ((cx_r_token S_3) < 33) → (((cx_r_token S_3) ≤ 38 → wC_X6_advance S_3 (fun S_9 => wC_rd d 0 S_9 (fun S_11 => wC_X6_emit (cx_r_token S_3) 0 S_11 (fun S_13 => post S_13)))) ∧ (¬ ((cx_r_token S_3) ≤ 38) → wC_X6_fail 1 S_3 (fun S_15 => post S_15)))))) → wC_rd (d + 1) 6 c post := by
      intro post h
      show wB_X6_readAsk (wC_rd d) c post
      unfold wB_X6_readAsk
      rw [t1, e29]
      exact p_no k29 h
    rcases h0 op ct s e nc nr C st T c m ho (by omega) hT1 hc hm hlen (by omega) (by omega) i6 i2 (fun z => absurd z k29) with ⟨ct2, s2, e2, nc2, nr2, E2, D2, A2, c2, m3, b1, b2, b3, b4, b5, b6, b7, b8, ⟨b9, b10, b11, b12⟩, b13, b14⟩ | F
    · have h300' := TN_300 H b2
      have b21 := b2.1
      have lenD : D2.length + A2.length = (C ++ E2).length := by
        rw [b5, List.length_append, show (opsL A2).length = A2.length from List.length_map _]
      have hlA : (A2 ++ st).length < 160 := by
        rw [List.length_append]
        omega
      obtain ⟨u1, u2, u3, u4, u5, u6⟩ := CC_token b3
      have v1 : opV (A2 ++ st) = 43 := (opV_skip A2 st b8).trans i5
      have v2 : cmB (A2 ++ st) = false := (cmB_skip A2 st b10).trans i4
      have c45 := b2.2.2.2.2
      have l33 : (nI ct2 < 33) = (ct2 < 33) := propext (nI_ltI (b := 33) (by omega) (by decide))
      have l38 : (nI ct2 ≤ 38) = (ct2 ≤ 38) := propext (nI_leI (b := 38) (by omega) (by decide))
      by_cases q : 33 ≤ ct2 ∧ ct2 ≤ 38
      · obtain ⟨x1, x2, x3, x4, x5⟩ := cp_tab ct2 (by omega) q.1
        have bt : btI ct2 (A2 ++ st) = nI (cpN ct2) := by
          unfold btI
          rw [if_neg b9.1, if_neg b9.2.1, if_neg b9.2.2.1, if_neg b9.2.2.2, if_pos v1, v2, if_neg (by decide), if_pos q]
        obtain ⟨m4, g1, g2⟩ := bh_op H b4 (x := cpN ct2) (r := 5) (by omega) bt (by rw [if_pos x2]) i6 hlA b10 (by omega) (by omega) (by omega)
        rw [← b5, b12, show op + 0 - 0 = op by omega] at g1
        obtain ⟨ct3, s3, e3, nc3, nr3, a3, a4, aC, aM⟩ := both_adv H (tx0 := tx0) b2
        have a41 := a4.1
        have sm2 := b2.2.2.1 (by omega)
        obtain ⟨c3, l1, l2⟩ := aC _ _ _ b3
        obtain ⟨m5, l3, l4⟩ := aM _ _ _ _ _ g1
        have B2 : ∀ post : Int32 → MS → Prop, Lp post m5 → Lp post m := fun post h => b14 post (Lp_behind b4 post (g2 m5 l4) h)
        have W2 : ∀ post : CS → Prop, wC_rd d 0 c3 (fun S_11 => wC_X6_emit (nI ct2) 0 S_11 (fun S_13 => post S_13)) → wC_rd (d + 1) 6 c post := by
          intro post h
          refine W post (b13 _ ?_)
          rw [u1, l33, l38]
          exact p_no (by omega) (p_yes q.2 (l2 _ h))
        rcases h0 op ct3 s3 e3 nc3 nr3 (C ++ E2) (cpN ct2 :: st) (true :: T) c3 m5 ho (by omega) a4 l1 l3 (by show (C ++ E2).length + (st.length + 1) ≤ s3; omega) (by show T.length + 1 ≤ _; omega) (by show st.length + 1 ≤ _; omega) (show rkN (cpN ct2) < 5 by omega) (show cpN ct2 ≠ 41 ∧ cpN ct2 ≠ 42 by omega) (fun _ => ask_no _ st (Or.inl ⟨x1, by omega⟩)) with ⟨ct4, s4, e4, nc4, nr4, E4, D4, A4, c4, m6, d1, d2, d3, d4, d5, d6, d7, d8, ⟨d9, d10, d11, d12⟩, d13, d14⟩ | F
        · have h304 := TN_300 H d2
          have d6' : (C ++ E2 ++ E4).length + (st.length + 1) ≤ s4 := d6
          obtain ⟨c5, f1, f2⟩ := CC_emit d3 (by omega) (cpN ct2) 0
          rw [x3] at f2
          have cn : op + cntO (A4 ++ [cpN ct2]) = op + cntO A4 := by
            rw [cntO_app, cnt_1 (by omega), Nat.add_zero]
          have eC : C ++ E2 ++ E4 ++ [(cpN ct2, 0)] = C ++ (E2 ++ E4 ++ [(cpN ct2, 0)]) := by
            simp only [List.append_assoc]
          have cm : cmB (A4 ++ cpN ct2 :: st) = true := by
            rw [cmB_skip A4 _ d10]
            show (if rkN (cpN ct2) ≤ 4 then rkN (cpN ct2) == 4 else cmB st) = true
            rw [if_pos (by omega), x2]
            rfl
          rw [app_1, ← cn] at d4
          rw [app_1] at cm
          rw [eC] at f1
          refine Or.inl ⟨ct4, s4, e4, nc4, nr4, E2 ++ E4 ++ [(cpN ct2, 0)], D4, A4 ++ [cpN ct2], c5, m6, by omega, d2, f1, d4, ?_, ?_, tyRun_two s0 _ _ T _ _ (tyRun_two s0 _ _ T _ _ b7 d7) (tyRun_1 s0 _ _ _ (ty_cmp ⟨x4, x5⟩ T)), mem_1 d8 x1, ⟨d9, trivial, mem_1 (p := fun y => 3 ≤ rkN y) (fun y hy => by have := d10 y hy; show 3 ≤ rkN y; omega) (show 3 ≤ rkN (cpN ct2) by omega), ?_, cm⟩, fun post hp => W2 post (d13 _ (f2 _ hp)), fun post h => B2 post (d14 post h)⟩
          · rw [← eC, d5, opsL_app, List.append_assoc]
          · rw [← eC, List.length_append]
            show (C ++ E2 ++ E4).length + 1 + st.length ≤ s4
            omega
          · rw [List.length_append]
            show A4.length + 1 + op ≤ 11
            omega
        · refine Or.inr (OutF_map F (fun f s' c' hf hF => ?_) B2)
          obtain ⟨c5, f1, f2⟩ := fc_emit hF (nI ct2) 0
          exact ⟨c5, f1, fun hr post hp => W2 post (hr _ (f2 _ hp))⟩
      · have bt : btI ct2 (A2 ++ st) = -1 := by
          unfold btI
          rw [if_neg b9.1, if_neg b9.2.1, if_neg b9.2.2.1, if_neg b9.2.2.2, if_pos v1, v2, if_neg (by decide), if_neg q]
        have pt : ptI ct2 (A2 ++ st) = -1 := by
          unfold ptI
          rw [v1, v2, if_neg (by decide), if_pos rfl, if_neg (fun z => absurd z.2 (by decide))]
        refine Or.inr (OutF_now (f := 1) (by decide) b3 b4 (fun c' hF hr => ⟨c', hF, fun post hp => W post (b13 _ ?_)⟩) (fun post hp => b14 post (Lp_stuck b4 (by omega) (by rw [v1]; decide) post (bh_none b4 (by omega) bt pt) hp)))
        rw [u1, l33, l38]
        exact p_two (fun _ => hr _ hp) (fun z => p_no (by omega) (hr _ hp))
    · refine Or.inr (OutF_map F (fun f s' c' hf hF => ⟨c', hF, fun hr post hp => W post (hr _ ?_)⟩) (fun post h => h))
      rw [(fc_tok hF).1]
      exact p_yes (by decide) (fc_fail hf hF 1 post hp)
