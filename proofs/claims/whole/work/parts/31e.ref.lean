def wM_wayTo_38 (post : Int32 → MS → Prop) : Nat → Int32 → Int32 → MS → Prop
  | 0, _, _, _ => False
  | n + 1, x2, x3, S => (vp_in x3 10000 ∧ ((((ms_depth S) x3.toNatClampNeg) ≤ (x2 + 1) → (vp_in x3 10000 ∧ post ((ms_byFall S) x3.toNatClampNeg) S)) ∧ (¬ (((ms_depth S) x3.toNatClampNeg) ≤ (x2 + 1)) → (vp_in x3 10000 ∧ wM_wayTo_38 post n x2 ((ms_from S) x3.toNatClampNeg) S))))
def wM_wayTo (p1 : Int32) (p2 : Int32) (S : MS) (post : Int32 → MS → Prop) : Prop := ((p1 = (-1) → post (-2) S) ∧ (¬ (p1 = (-1)) → (vp_in p1 10000 ∧ wM_isIn p2 (-1) (((ms_depth S) p1.toNatClampNeg) - 1) S (fun r_2 S_3 => ((r_2 = 0 → post (-2) S_3) ∧ (¬ (r_2 = 0) → ((p2 = (-1) → (vp_in p1 10000 ∧ post ((ms_depth S_3) p1.toNatClampNeg) S_3)) ∧ (¬ (p2 = (-1)) → ∃ k_ : Nat, wM_wayTo_38 post k_ p2 p1 S_3))))))))
set_option maxHeartbeats 4000000 in
set_option maxRecDepth 100000 in
theorem cM_wayTo (l : Launch) (D : va_G) (h : Nat → Nat) (cy : Nat → ClassId) (p1 : Int32) (p2 : Int32) (S : MS) (post : Int32 → MS → Prop) (hw : wM_wayTo p1 p2 S post) : k_Mi l yX12_wayTo wsX12_wayTo { frames := 1, cells := 0, slots := 0, locals := 22 } D (tyM cy) (wM h cy) [.ref (h 31), .int p1, .int p2] S post := by
  intro sz
  refine Met.ofW (cc := cX12_wayTo) (maxL := 4) (ret := (some .int)) (by decide) rfl ?_
  intro p e s m args below meth c s₁ B hml hv
  obtain ⟨rfl, hsz, hP, hK, hD0⟩ := hv
  have hx := B.exec
  have hb := B.bytes
  have hr := B.returns
  have hts := atoms_spec (ws := wsX12_wayTo) B.pre
  have hown : s.vm.findClass RX12 = some m.cls := findClass_of_methodNamed B.named
  have hlocks := B.notSynchronized
  subst hsz
  have hD := hD0.self (sz := s.heap.size)
  generalize hAe : va_A (wM h cy S) s.heap.size = A at hD ⊢
  have hA : ∀ q : Nat, s.heap.size ≤ q → A q := fun q h => by rw [← hAe]; exact Or.inr h
  have hS : va_S A s.heap s.heap [] := va_S.rf
  have hin : ∀ w ∈ wsX120, w ∈ wsX12_wayTo := fun _ h => List.mem_cons_of_mem _ (List.mem_append_right _ h)
  have w49 := hts (.fieldLink RX12 49 "ClownsMournModel" "from" "[I") (List.mem_of_getElem? (i := 2) rfl)
  have w52 := hts (.fieldLink RX12 52 "ClownsMournModel" "byFall" "[I") (List.mem_of_getElem? (i := 3) rfl)
  have w55 := hts (.fieldLink RX12 55 "ClownsMournModel" "depth" "[I") (List.mem_of_getElem? (i := 1) rfl)
  have hl := lv_entry ([.ref (h 31), .int p1, .int p2]) (n := 4) (Nat.le_of_ble_eq_true rfl)
  rw [lg_entry_eq]
  generalize (lg_sl ([.ref (h 31), .int p1, .int p2]) ++ List.replicate (4 - (lg_sl ([.ref (h 31), .int p1, .int p2])).length) Slot.unset).toArray = ls at hl ⊢
  have hl : lv_has ls 4 [(0, .ref (h 31)), (1, .int p1), (2, .int p2)] := hl
  unfold wM_wayTo at hw
  clear hD0
  have L_38 : ∀ (n38 : Nat) (x2 : Int32) (x3 : Int32) (S : MS) (H : Heap) (locs : List Loc) (ls : Array Slot), wM_wayTo_38 post n38 x2 x3 S → va_P D vwCl (wM h cy S) H → va_D A (wM h cy S) → va_S A s.heap H locs → lv_has ls 4 [(0, .ref (h 31)), (2, .int x2), (3, .int x3)] → W p l e (headSpec wsX12_wayTo { frames := 1, cells := 0, slots := 0, locals := 22 }).room s m (([.ref (h 31), .int p1, .int p2] : List Value).toArray) below meth c H locs 0 0 (MQ below (va_Qi post (k_Post D (tyM cy) (wM h cy) A) A) (([.ref (h 31), .int p1, .int p2] : List Value).toArray) s 0 0 A) (F0 m 38 ls []) := by
    intro n38
    induction n38 with
    | zero => intro x2 x3 S H locs ls hw; exact False.elim hw
    | succ n38 ih_38 =>
      intro x2 x3 S H locs ls hw hP hD hS hl
      unfold wM_wayTo_38 at hw
      refine lv_aload_n hx hb dX12_wayTo_38 rfl (lv_at hl 0 rfl) ?_
      refine va_get (D := D) (ci := 11) (v := .ref (h 27)) (C := RX12) (T := TX12) (N := 31) hx hb hts hin hown hK hP 0 rfl rfl 27 (by decide) w55 (fun _ h9 => h9) rfl dX12_wayTo_39 ?_
      refine lv_iload_n hx hb dX12_wayTo_42 rfl (lv_at hl 2 rfl) ?_
      obtain ⟨hi_4, hw⟩ := hw
      refine va_iald (f := (ms_depth S)) hx hb hK hP 13 12 rfl rfl hi_4 dX12_wayTo_43 ?_
      refine lv_iload_n hx hb dX12_wayTo_44 rfl (lv_at hl 1 rfl) ?_
      refine lv_iconst (v := 1) hx hb dX12_wayTo_45 (by decide) ?_
      refine lv_iadd hx hb dX12_wayTo_46 ?_
      obtain ⟨hc_1t, hc_1f⟩ := hw
      refine lv_icmp_le (tgt := 60) hx hb dX12_wayTo_47 (by decide) (fun c_1 => ?_) (fun c_1 => ?_)
      · have hw := hc_1t c_1
        clear hc_1t hc_1f
        refine lv_aload_n hx hb dX12_wayTo_60 rfl (lv_at hl 0 rfl) ?_
        refine va_get (D := D) (ci := 11) (v := .ref (h 26)) (C := RX12) (T := TX12) (N := 31) hx hb hts hin hown hK hP 0 rfl rfl 26 (by decide) w52 (fun _ h9 => h9) rfl dX12_wayTo_61 ?_
        refine lv_iload_n hx hb dX12_wayTo_64 rfl (lv_at hl 2 rfl) ?_
        obtain ⟨hi_2, hw⟩ := hw
        refine va_iald (f := (ms_byFall S)) hx hb hK hP 12 11 rfl rfl hi_2 dX12_wayTo_65 ?_
        exact W.iret (v := (ms_byFall S) x3.toNatClampNeg) hx hb hr (fun t ht hW => ⟨⟨(ms_byFall S) x3.toNatClampNeg, S, rfl, hw, by rw [ht]; exact hP, va_K.moved hW.alike hK, hD⟩, hS.F ht⟩) hS.2.2 dX12_wayTo_66
      · have hw := hc_1f c_1
        clear hc_1t hc_1f
        refine lv_aload_n hx hb dX12_wayTo_50 rfl (lv_at hl 0 rfl) ?_
        refine va_get (D := D) (ci := 11) (v := .ref (h 25)) (C := RX12) (T := TX12) (N := 31) hx hb hts hin hown hK hP 0 rfl rfl 25 (by decide) w49 (fun _ h9 => h9) rfl dX12_wayTo_51 ?_
        refine lv_iload_n hx hb dX12_wayTo_54 rfl (lv_at hl 2 rfl) ?_
        obtain ⟨hi_3, hw⟩ := hw
        refine va_iald (f := (ms_from S)) hx hb hK hP 11 10 rfl rfl hi_3 dX12_wayTo_55 ?_
        refine lv_istore_n (lv' := [(3, .int ((ms_from S) x3.toNatClampNeg)), (0, .ref (h 31)), (2, .int x2)]) hx hb dX12_wayTo_56 rfl hl (by decide) rfl (fun ls hl => ?_)
        refine lv_goto (tgt := 38) hx hb dX12_wayTo_57 (by decide) ?_
        exact ih_38 x2 ((ms_from S) x3.toNatClampNeg) S _ _ _ hw hP hD hS (lv_sub hl [1, 2, 0] rfl)
  refine lv_iload_n hx hb dX12_wayTo_0 rfl (lv_at hl 1 rfl) ?_
  refine lv_iconst (v := (-1)) hx hb dX12_wayTo_1 (by decide) ?_
  obtain ⟨hc_5t, hc_5f⟩ := hw
  refine lv_icmp_eq (tgt := 21) hx hb dX12_wayTo_2 (by decide) (fun c_5 => ?_) (fun c_5 => ?_)
  · have hw := hc_5t c_5
    clear hc_5t hc_5f
    refine lv_bipush (v := (-2)) hx hb dX12_wayTo_21 (by decide) ?_
    exact W.iret (v := (-2)) hx hb hr (fun t ht hW => ⟨⟨(-2), S, rfl, hw, by rw [ht]; exact hP, va_K.moved hW.alike hK, hD⟩, hS.F ht⟩) hS.2.2 dX12_wayTo_23
  · have hw := hc_5f c_5
    clear hc_5t hc_5f
    refine lv_iload_n hx hb dX12_wayTo_5 rfl (lv_at hl 2 rfl) ?_
    refine lv_iconst (v := (-1)) hx hb dX12_wayTo_6 (by decide) ?_
    refine lv_aload_n hx hb dX12_wayTo_7 rfl (lv_at hl 0 rfl) ?_
    refine va_get (D := D) (ci := 11) (v := .ref (h 27)) (C := RX12) (T := TX12) (N := 31) hx hb hts hin hown hK hP 0 rfl rfl 27 (by decide) w55 (fun _ h9 => h9) rfl dX12_wayTo_8 ?_
    refine lv_iload_n hx hb dX12_wayTo_11 rfl (lv_at hl 1 rfl) ?_
    obtain ⟨hi_11, hw⟩ := hw
    refine va_iald (f := (ms_depth S)) hx hb hK hP 13 12 rfl rfl hi_11 dX12_wayTo_12 ?_
    refine lv_iconst (v := 1) hx hb dX12_wayTo_13 (by decide) ?_
    refine lv_isub hx hb dX12_wayTo_14 ?_
    refine k_callSi (As := [.int p2, .int (-1), .int (((ms_depth S) p1.toNatClampNeg) - 1)]) (rest := []) ⟨hx, hb, hml, hown, hts⟩ (cM_isIn l D h cy _ _ _ _ _ hw) (va_cwS 3 hts gX12_wayTo_X12_isIn rfl rfl rfl (by decide +kernel) ⟨Nat.le_of_ble_eq_true rfl, Nat.le_of_ble_eq_true rfl⟩) hK hP hD hS hA rfl hl.1 rfl (Nat.le_of_ble_eq_true rfl) dX12_wayTo_15 ⟨Nat.zero_le _, Nat.zero_le _⟩ (fun r_6 S_7 H locs hw hP hD hS => ?_)
    obtain ⟨hc_8t, hc_8f⟩ := hw
    refine lv_if_ne (tgt := 24) hx hb dX12_wayTo_18 (by decide) (fun c_8 => ?_) (fun c_8 => ?_)
    · have hw := hc_8f c_8
      clear hc_8t hc_8f
      refine lv_iload_n hx hb dX12_wayTo_24 rfl (lv_at hl 2 rfl) ?_
      refine lv_iconst (v := (-1)) hx hb dX12_wayTo_25 (by decide) ?_
      obtain ⟨hc_9t, hc_9f⟩ := hw
      refine lv_icmp_ne (tgt := 36) hx hb dX12_wayTo_26 (by decide) (fun c_9 => ?_) (fun c_9 => ?_)
      · have hw := hc_9f c_9
        clear hc_9t hc_9f
        refine lv_iload_n hx hb dX12_wayTo_36 rfl (lv_at hl 1 rfl) ?_
        refine lv_istore_n (lv' := [(3, .int p1), (0, .ref (h 31)), (1, .int p1), (2, .int p2)]) hx hb dX12_wayTo_37 rfl hl (by decide) rfl (fun ls hl => ?_)
        obtain ⟨n_38, hw⟩ := hw
        exact L_38 n_38 p2 p1 S_7 _ _ _ hw hP hD hS (lv_sub hl [1, 3, 0] rfl)
      · have hw := hc_9t c_9
        clear hc_9t hc_9f
        refine lv_aload_n hx hb dX12_wayTo_29 rfl (lv_at hl 0 rfl) ?_
        refine va_get (D := D) (ci := 11) (v := .ref (h 27)) (C := RX12) (T := TX12) (N := 31) hx hb hts hin hown hK hP 0 rfl rfl 27 (by decide) w55 (fun _ h9 => h9) rfl dX12_wayTo_30 ?_
        refine lv_iload_n hx hb dX12_wayTo_33 rfl (lv_at hl 1 rfl) ?_
        obtain ⟨hi_10, hw⟩ := hw
        refine va_iald (f := (ms_depth S_7)) hx hb hK hP 13 12 rfl rfl hi_10 dX12_wayTo_34 ?_
        exact W.iret (v := (ms_depth S_7) p1.toNatClampNeg) hx hb hr (fun t ht hW => ⟨⟨(ms_depth S_7) p1.toNatClampNeg, S_7, rfl, hw, by rw [ht]; exact hP, va_K.moved hW.alike hK, hD⟩, hS.F ht⟩) hS.2.2 dX12_wayTo_35
    · have hw := hc_8t c_8
      clear hc_8t hc_8f
      refine lv_bipush (v := (-2)) hx hb dX12_wayTo_21 (by decide) ?_
      exact W.iret (v := (-2)) hx hb hr (fun t ht hW => ⟨⟨(-2), S_7, rfl, hw, by rw [ht]; exact hP, va_K.moved hW.alike hK, hD⟩, hS.F ht⟩) hS.2.2 dX12_wayTo_23
def wM_order_55 (post : Int32 → MS → Prop) (K25 : Int32 → Int32 → MS → Prop) : Nat → Int32 → Int32 → Int32 → MS → Prop
  | 0, _, _, _, _ => False
  | n + 1, x2, x3, x4, S => ((5 ≤ x4 → K25 x2 (x3 + 1) S) ∧ (¬ (5 ≤ x4) → (vp_in x3 10000 ∧ wM_moodBy x4 ((ms_line S) x3.toNatClampNeg) S (fun r_2 S_3 => (vp_in x3 10000 ∧ wM_comeTo r_2 ((ms_line S_3) x3.toNatClampNeg) x4 S_3 (fun S_5 => wM_order_55 post K25 n x2 x3 (x4 + 1) S_5))))))
def wM_order_25 (post : Int32 → MS → Prop) : Nat → Int32 → Int32 → MS → Prop
  | 0, _, _, _ => False
  | n + 1, x2, x3, S => (((ms_lined S) ≤ x3 → post (-2) S) ∧ (¬ ((ms_lined S) ≤ x3) → (vp_in x3 10000 ∧ ((((ms_line S) x3.toNatClampNeg) = 9 → wM_wayTo 9 x2 S (fun r_3 S_4 => post r_3 S_4)) ∧ (¬ (((ms_line S) x3.toNatClampNeg) = 9) → ∃ k_ : Nat, wM_order_55 post (wM_order_25 post n) k_ x2 x3 0 S)))))
def wM_order (p1 : Int32) (p2 : Int32) (S : MS) (post : Int32 → MS → Prop) : Prop := wM_isHouse p1 S (fun r_1 S_2 => ((r_1 = 0 → post (-2) S_2) ∧ (¬ (r_1 = 0) → wM_get p1 1 S_2 (fun r_4 S_5 => wM_beginAt r_4 10 S_5 (fun S_7 => ∃ k_ : Nat, wM_order_25 post k_ p2 0 S_7)))))
set_option maxHeartbeats 4000000 in
set_option maxRecDepth 100000 in
theorem cM_order (l : Launch) (D : va_G) (h : Nat → Nat) (cy : Nat → ClassId) (p1 : Int32) (p2 : Int32) (S : MS) (post : Int32 → MS → Prop) (hw : wM_order p1 p2 S post) : k_Mi l yX12_order wsX12_order { frames := 2, cells := 0, slots := 0, locals := 45 } D (tyM cy) (wM h cy) [.ref (h 31), .int p1, .int p2] S post := by
  intro sz
  refine Met.ofW (cc := cX12_order) (maxL := 5) (ret := (some .int)) (by decide) rfl ?_
  intro p e s m args below meth c s₁ B hml hv
  obtain ⟨rfl, hsz, hP, hK, hD0⟩ := hv
  have hx := B.exec
  have hb := B.bytes
  have hr := B.returns
  have hts := atoms_spec (ws := wsX12_order) B.pre
  have hown : s.vm.findClass RX12 = some m.cls := findClass_of_methodNamed B.named
  have hlocks := B.notSynchronized
  subst hsz
  have hD := hD0.self (sz := s.heap.size)
  generalize hAe : va_A (wM h cy S) s.heap.size = A at hD ⊢
  have hA : ∀ q : Nat, s.heap.size ≤ q → A q := fun q h => by rw [← hAe]; exact Or.inr h
  have hS : va_S A s.heap s.heap [] := va_S.rf
  have hin : ∀ w ∈ wsX120, w ∈ wsX12_order := fun _ h => List.mem_cons_of_mem _ (List.mem_append_right _ h)
  have w46 := hts (.fieldLink RX12 46 "ClownsMournModel" "line" "[I") (List.mem_of_getElem? (i := 2) rfl)
  have w417 := hts (.fieldLink RX12 417 "ClownsMournModel" "lined" "I") (List.mem_of_getElem? (i := 1) rfl)
  have hl := lv_entry ([.ref (h 31), .int p1, .int p2]) (n := 5) (Nat.le_of_ble_eq_true rfl)
  rw [lg_entry_eq]
  generalize (lg_sl ([.ref (h 31), .int p1, .int p2]) ++ List.replicate (5 - (lg_sl ([.ref (h 31), .int p1, .int p2])).length) Slot.unset).toArray = ls at hl ⊢
  have hl : lv_has ls 5 [(0, .ref (h 31)), (1, .int p1), (2, .int p2)] := hl
  unfold wM_order at hw
  clear hD0
  have L_25 : ∀ (n25 : Nat) (x2 : Int32) (x3 : Int32) (S : MS) (H : Heap) (locs : List Loc) (ls : Array Slot), wM_order_25 post n25 x2 x3 S → va_P D vwCl (wM h cy S) H → va_D A (wM h cy S) → va_S A s.heap H locs → lv_has ls 5 [(0, .ref (h 31)), (2, .int x2), (3, .int x3)] → W p l e (headSpec wsX12_order { frames := 2, cells := 0, slots := 0, locals := 45 }).room s m (([.ref (h 31), .int p1, .int p2] : List Value).toArray) below meth c H locs 0 0 (MQ below (va_Qi post (k_Post D (tyM cy) (wM h cy) A) A) (([.ref (h 31), .int p1, .int p2] : List Value).toArray) s 0 0 A) (F0 m 25 ls []) := by
    intro n25
    induction n25 with
    | zero => intro x2 x3 S H locs ls hw; exact False.elim hw
    | succ n25 ih_25 =>
      have L_55 : ∀ (n55 : Nat) (x2 : Int32) (x3 : Int32) (x4 : Int32) (S : MS) (H : Heap) (locs : List Loc) (ls : Array Slot), wM_order_55 post (wM_order_25 post n25) n55 x2 x3 x4 S → va_P D vwCl (wM h cy S) H → va_D A (wM h cy S) → va_S A s.heap H locs → lv_has ls 5 [(0, .ref (h 31)), (2, .int x2), (3, .int x3), (4, .int x4)] → W p l e (headSpec wsX12_order { frames := 2, cells := 0, slots := 0, locals := 45 }).room s m (([.ref (h 31), .int p1, .int p2] : List Value).toArray) below meth c H locs 0 0 (MQ below (va_Qi post (k_Post D (tyM cy) (wM h cy) A) A) (([.ref (h 31), .int p1, .int p2] : List Value).toArray) s 0 0 A) (F0 m 55 ls []) := by
        intro n55
        induction n55 with
        | zero => intro x2 x3 x4 S H locs ls hw; exact False.elim hw
        | succ n55 ih_55 =>
          intro x2 x3 x4 S H locs ls hw hP hD hS hl
          unfold wM_order_55 at hw
          refine lv_iload hx hb dX12_order_55 (lv_at hl 3 rfl) ?_
          refine lv_iconst (v := 5) hx hb dX12_order_57 (by decide) ?_
          obtain ⟨hc_1t, hc_1f⟩ := hw
          refine lv_icmp_ge (tgt := 91) hx hb dX12_order_58 (by decide) (fun c_1 => ?_) (fun c_1 => ?_)
          · have hw := hc_1t c_1
            clear hc_1t hc_1f
            refine lv_iinc (v := x3 + 1) (lv' := [(3, .int (x3 + 1)), (0, .ref (h 31)), (2, .int x2), (4, .int x4)]) hx hb dX12_order_91 hl (k := 2) rfl (k_inc (by decide)) (by decide) rfl (fun ls hl => ?_)
            refine lv_goto (tgt := 25) hx hb dX12_order_94 (by decide) ?_
            exact ih_25 x2 (x3 + 1) S _ _ _ hw hP hD hS (lv_sub hl [1, 2, 0] rfl)
          · have hw := hc_1f c_1
            clear hc_1t hc_1f
            refine lv_aload_n hx hb dX12_order_61 rfl (lv_at hl 0 rfl) ?_
            refine lv_aload_n hx hb dX12_order_62 rfl (lv_at hl 0 rfl) ?_
            refine lv_iload hx hb dX12_order_63 (lv_at hl 3 rfl) ?_
            refine lv_aload_n hx hb dX12_order_65 rfl (lv_at hl 0 rfl) ?_
            refine va_get (D := D) (ci := 11) (v := .ref (h 24)) (C := RX12) (T := TX12) (N := 31) hx hb hts hin hown hK hP 0 rfl rfl 24 (by decide) w46 (fun _ h9 => h9) rfl dX12_order_66 ?_
            refine lv_iload_n hx hb dX12_order_69 rfl (lv_at hl 2 rfl) ?_
            obtain ⟨hi_7, hw⟩ := hw
            refine va_iald (f := (ms_line S)) hx hb hK hP 10 9 rfl rfl hi_7 dX12_order_70 ?_
            refine k_callVi (As := [.int x4, .int ((ms_line S) x3.toNatClampNeg)]) (rest := [.ref (h 31)]) ⟨hx, hb, hml, hown, hts⟩ (cM_moodBy l D h cy _ _ _ _ hw) (cwV 2 hts gX12_order_X12_moodBy rfl rfl rfl (by decide +kernel) ⟨Nat.le_of_ble_eq_true rfl, Nat.le_of_ble_eq_true rfl⟩) (va_recv hK hP (ci := 11) (q0 := 0) rfl rfl) hK hP hD hS hA rfl hl.1 rfl (Nat.le_of_ble_eq_true rfl) dX12_order_71 ⟨Nat.zero_le _, Nat.zero_le _⟩ (fun r_2 S_3 H locs hw hP hD hS => ?_)
            refine lv_aload_n hx hb dX12_order_74 rfl (lv_at hl 0 rfl) ?_
            refine va_get (D := D) (ci := 11) (v := .ref (h 24)) (C := RX12) (T := TX12) (N := 31) hx hb hts hin hown hK hP 0 rfl rfl 24 (by decide) w46 (fun _ h9 => h9) rfl dX12_order_75 ?_
            refine lv_iload_n hx hb dX12_order_78 rfl (lv_at hl 2 rfl) ?_
            obtain ⟨hi_6, hw⟩ := hw
            refine va_iald (f := (ms_line S_3)) hx hb hK hP 10 9 rfl rfl hi_6 dX12_order_79 ?_
            refine lv_iload hx hb dX12_order_80 (lv_at hl 3 rfl) ?_
            refine k_callVv (As := [.int r_2, .int ((ms_line S_3) x3.toNatClampNeg), .int x4]) (rest := []) ⟨hx, hb, hml, hown, hts⟩ (cM_comeTo l D h cy _ _ _ _ _ hw) (cwV 3 hts gX12_order_X12_comeTo rfl rfl rfl (by decide +kernel) ⟨Nat.le_of_ble_eq_true rfl, Nat.le_of_ble_eq_true rfl⟩) (va_recv hK hP (ci := 11) (q0 := 0) rfl rfl) hK hP hD hS hA rfl hl.1 rfl (Nat.le_of_ble_eq_true rfl) dX12_order_82 ⟨Nat.zero_le _, Nat.zero_le _⟩ (fun S_5 H locs hw hP hD hS => ?_)
            refine lv_iinc (v := x4 + 1) (lv' := [(4, .int (x4 + 1)), (0, .ref (h 31)), (2, .int x2), (3, .int x3)]) hx hb dX12_order_85 hl (k := 3) rfl (k_inc (by decide)) (by decide) rfl (fun ls hl => ?_)
            refine lv_goto (tgt := 55) hx hb dX12_order_88 (by decide) ?_
            exact ih_55 x2 x3 (x4 + 1) S_5 _ _ _ hw hP hD hS (lv_sub hl [1, 2, 3, 0] rfl)
      intro x2 x3 S H locs ls hw hP hD hS hl
      unfold wM_order_25 at hw
      refine lv_iload_n hx hb dX12_order_25 rfl (lv_at hl 2 rfl) ?_
      refine lv_aload_n hx hb dX12_order_26 rfl (lv_at hl 0 rfl) ?_
      refine va_get (D := D) (ci := 11) (v := .int (ms_lined S)) (C := RX12) (T := TX12) (N := 31) hx hb hts hin hown hK hP 0 rfl rfl 28 (by decide) w417 (fun _ h9 => h9) rfl dX12_order_27 ?_
      obtain ⟨hc_8t, hc_8f⟩ := hw
      refine lv_icmp_ge (tgt := 97) hx hb dX12_order_30 (by decide) (fun c_8 => ?_) (fun c_8 => ?_)
      · have hw := hc_8t c_8
        clear hc_8t hc_8f
        refine lv_bipush (v := (-2)) hx hb dX12_order_97 (by decide) ?_
        exact W.iret (v := (-2)) hx hb hr (fun t ht hW => ⟨⟨(-2), S, rfl, hw, by rw [ht]; exact hP, va_K.moved hW.alike hK, hD⟩, hS.F ht⟩) hS.2.2 dX12_order_99
      · have hw := hc_8f c_8
        clear hc_8t hc_8f
        refine lv_aload_n hx hb dX12_order_33 rfl (lv_at hl 0 rfl) ?_
        refine va_get (D := D) (ci := 11) (v := .ref (h 24)) (C := RX12) (T := TX12) (N := 31) hx hb hts hin hown hK hP 0 rfl rfl 24 (by decide) w46 (fun _ h9 => h9) rfl dX12_order_34 ?_
        refine lv_iload_n hx hb dX12_order_37 rfl (lv_at hl 2 rfl) ?_
        obtain ⟨hi_12, hw⟩ := hw
        refine va_iald (f := (ms_line S)) hx hb hK hP 10 9 rfl rfl hi_12 dX12_order_38 ?_
        refine lv_bipush (v := 9) hx hb dX12_order_39 (by decide) ?_
        obtain ⟨hc_9t, hc_9f⟩ := hw
        refine lv_icmp_ne (tgt := 52) hx hb dX12_order_41 (by decide) (fun c_9 => ?_) (fun c_9 => ?_)
        · have hw := hc_9f c_9
          clear hc_9t hc_9f
          refine lv_iconst (v := 0) hx hb dX12_order_52 (by decide) ?_
          refine lv_istore (lv' := [(4, .int 0), (0, .ref (h 31)), (2, .int x2), (3, .int x3)]) hx hb dX12_order_53 hl (by decide) rfl (fun ls hl => ?_)
          obtain ⟨n_55, hw⟩ := hw
          exact L_55 n_55 x2 x3 0 S _ _ _ hw hP hD hS (lv_sub hl [1, 2, 3, 0] rfl)
        · have hw := hc_9t c_9
          clear hc_9t hc_9f
          refine lv_aload_n hx hb dX12_order_44 rfl (lv_at hl 0 rfl) ?_
          refine lv_bipush (v := 9) hx hb dX12_order_45 (by decide) ?_
          refine lv_iload_n hx hb dX12_order_47 rfl (lv_at hl 1 rfl) ?_
          refine k_callVi (As := [.int 9, .int x2]) (rest := []) ⟨hx, hb, hml, hown, hts⟩ (cM_wayTo l D h cy _ _ _ _ hw) (cwV 2 hts gX12_order_X12_wayTo rfl rfl rfl (by decide +kernel) ⟨Nat.le_of_ble_eq_true rfl, Nat.le_of_ble_eq_true rfl⟩) (va_recv hK hP (ci := 11) (q0 := 0) rfl rfl) hK hP hD hS hA rfl hl.1 rfl (Nat.le_of_ble_eq_true rfl) dX12_order_48 ⟨Nat.zero_le _, Nat.zero_le _⟩ (fun r_10 S_11 H locs hw hP hD hS => ?_)
          exact W.iret (v := r_10) hx hb hr (fun t ht hW => ⟨⟨r_10, S_11, rfl, hw, by rw [ht]; exact hP, va_K.moved hW.alike hK, hD⟩, hS.F ht⟩) hS.2.2 dX12_order_51
  refine lv_aload_n hx hb dX12_order_0 rfl (lv_at hl 0 rfl) ?_
  refine lv_iload_n hx hb dX12_order_1 rfl (lv_at hl 1 rfl) ?_
  refine k_callVi (As := [.int p1]) (rest := []) ⟨hx, hb, hml, hown, hts⟩ (cM_isHouse l D h cy _ _ _ hw) (cwV 1 hts gX12_order_X12_isHouse rfl rfl rfl (by decide +kernel) ⟨Nat.le_of_ble_eq_true rfl, Nat.le_of_ble_eq_true rfl⟩) (va_recv hK hP (ci := 11) (q0 := 0) rfl rfl) hK hP hD hS hA rfl hl.1 rfl (Nat.le_of_ble_eq_true rfl) dX12_order_2 ⟨Nat.zero_le _, Nat.zero_le _⟩ (fun r_13 S_14 H locs hw hP hD hS => ?_)
  obtain ⟨hc_15t, hc_15f⟩ := hw
  refine lv_if_ne (tgt := 11) hx hb dX12_order_5 (by decide) (fun c_15 => ?_) (fun c_15 => ?_)
  · have hw := hc_15f c_15
    clear hc_15t hc_15f
    refine lv_aload_n hx hb dX12_order_11 rfl (lv_at hl 0 rfl) ?_
    refine lv_aload_n hx hb dX12_order_12 rfl (lv_at hl 0 rfl) ?_
    refine lv_iload_n hx hb dX12_order_13 rfl (lv_at hl 1 rfl) ?_
    refine lv_iconst (v := 1) hx hb dX12_order_14 (by decide) ?_
    refine k_callVi (As := [.int p1, .int 1]) (rest := [.ref (h 31)]) ⟨hx, hb, hml, hown, hts⟩ (cM_get l D h cy _ _ _ _ hw) (cwV 2 hts gX12_order_X12_get rfl rfl rfl (by decide +kernel) ⟨Nat.le_of_ble_eq_true rfl, Nat.le_of_ble_eq_true rfl⟩) (va_recv hK hP (ci := 11) (q0 := 0) rfl rfl) hK hP hD hS hA rfl hl.1 rfl (Nat.le_of_ble_eq_true rfl) dX12_order_15 ⟨Nat.zero_le _, Nat.zero_le _⟩ (fun r_16 S_17 H locs hw hP hD hS => ?_)
    refine lv_bipush (v := 10) hx hb dX12_order_18 (by decide) ?_
    refine k_callVv (As := [.int r_16, .int 10]) (rest := []) ⟨hx, hb, hml, hown, hts⟩ (cM_beginAt l D h cy _ _ _ _ hw) (cwV 2 hts gX12_order_X12_beginAt rfl rfl rfl (by decide +kernel) ⟨Nat.le_of_ble_eq_true rfl, Nat.le_of_ble_eq_true rfl⟩) (va_recv hK hP (ci := 11) (q0 := 0) rfl rfl) hK hP hD hS hA rfl hl.1 rfl (Nat.le_of_ble_eq_true rfl) dX12_order_20 ⟨Nat.zero_le _, Nat.zero_le _⟩ (fun S_19 H locs hw hP hD hS => ?_)
    refine lv_iconst (v := 0) hx hb dX12_order_23 (by decide) ?_
    refine lv_istore_n (lv' := [(3, .int 0), (0, .ref (h 31)), (1, .int p1), (2, .int p2)]) hx hb dX12_order_24 rfl hl (by decide) rfl (fun ls hl => ?_)
    obtain ⟨n_25, hw⟩ := hw
    exact L_25 n_25 p2 0 S_19 _ _ _ hw hP hD hS (lv_sub hl [1, 3, 0] rfl)
  · have hw := hc_15t c_15
    clear hc_15t hc_15f
    refine lv_bipush (v := (-2)) hx hb dX12_order_8 (by decide) ?_
    exact W.iret (v := (-2)) hx hb hr (fun t ht hW => ⟨⟨(-2), S_14, rfl, hw, by rw [ht]; exact hP, va_K.moved hW.alike hK, hD⟩, hS.F ht⟩) hS.2.2 dX12_order_10
def wM_moodsBy_5 (post : Int32 → MS → Prop) : Nat → Int32 → Int32 → Int32 → Int32 → MS → Prop
  | 0, _, _, _, _, _ => False
  | n + 1, x1, x2, x3, x4, S => ((10 ≤ x4 → post x3 S) ∧ (¬ (10 ≤ x4) → wM_has x2 x4 S (fun r_2 S_3 => ((r_2 = 0 → wM_moodsBy_5 post n x1 x2 (x3 ||| 0) (x4 + 1) S_3) ∧ (¬ (r_2 = 0) → wM_moodBy x1 x4 S_3 (fun r_5 S_6 => wM_moodsBy_5 post n x1 x2 (x3 ||| (k_shl 1 r_5)) (x4 + 1) S_6))))))
def wM_moodsBy (p1 : Int32) (p2 : Int32) (S : MS) (post : Int32 → MS → Prop) : Prop := ∃ k_ : Nat, wM_moodsBy_5 post k_ p1 p2 0 0 S
set_option maxHeartbeats 4000000 in
set_option maxRecDepth 100000 in
theorem cM_moodsBy (l : Launch) (D : va_G) (h : Nat → Nat) (cy : Nat → ClassId) (p1 : Int32) (p2 : Int32) (S : MS) (post : Int32 → MS → Prop) (hw : wM_moodsBy p1 p2 S post) : k_Mi l yX12_moodsBy wsX12_moodsBy { frames := 1, cells := 0, slots := 0, locals := 22 } D (tyM cy) (wM h cy) [.ref (h 31), .int p1, .int p2] S post := by
  intro sz
  refine Met.ofW (cc := cX12_moodsBy) (maxL := 5) (ret := (some .int)) (by decide) rfl ?_
  intro p e s m args below meth c s₁ B hml hv
  obtain ⟨rfl, hsz, hP, hK, hD0⟩ := hv
  have hx := B.exec
  have hb := B.bytes
  have hr := B.returns
  have hts := atoms_spec (ws := wsX12_moodsBy) B.pre
  have hown : s.vm.findClass RX12 = some m.cls := findClass_of_methodNamed B.named
  have hlocks := B.notSynchronized
  subst hsz
  have hD := hD0.self (sz := s.heap.size)
  generalize hAe : va_A (wM h cy S) s.heap.size = A at hD ⊢
  have hA : ∀ q : Nat, s.heap.size ≤ q → A q := fun q h => by rw [← hAe]; exact Or.inr h
  have hS : va_S A s.heap s.heap [] := va_S.rf
  have hl := lv_entry ([.ref (h 31), .int p1, .int p2]) (n := 5) (Nat.le_of_ble_eq_true rfl)
  rw [lg_entry_eq]
  generalize (lg_sl ([.ref (h 31), .int p1, .int p2]) ++ List.replicate (5 - (lg_sl ([.ref (h 31), .int p1, .int p2])).length) Slot.unset).toArray = ls at hl ⊢
  have hl : lv_has ls 5 [(0, .ref (h 31)), (1, .int p1), (2, .int p2)] := hl
  unfold wM_moodsBy at hw
  clear hD0
  have L_5 : ∀ (n5 : Nat) (x1 : Int32) (x2 : Int32) (x3 : Int32) (x4 : Int32) (S : MS) (H : Heap) (locs : List Loc) (ls : Array Slot), wM_moodsBy_5 post n5 x1 x2 x3 x4 S → va_P D vwCl (wM h cy S) H → va_D A (wM h cy S) → va_S A s.heap H locs → lv_has ls 5 [(0, .ref (h 31)), (1, .int x1), (2, .int x2), (3, .int x3), (4, .int x4)] → W p l e (headSpec wsX12_moodsBy { frames := 1, cells := 0, slots := 0, locals := 22 }).room s m (([.ref (h 31), .int p1, .int p2] : List Value).toArray) below meth c H locs 0 0 (MQ below (va_Qi post (k_Post D (tyM cy) (wM h cy) A) A) (([.ref (h 31), .int p1, .int p2] : List Value).toArray) s 0 0 A) (F0 m 5 ls []) := by
    intro n5
    induction n5 with
    | zero => intro x1 x2 x3 x4 S H locs ls hw; exact False.elim hw
    | succ n5 ih_5 =>
      intro x1 x2 x3 x4 S H locs ls hw hP hD hS hl
      unfold wM_moodsBy_5 at hw
      refine lv_iload hx hb dX12_moodsBy_5 (lv_at hl 4 rfl) ?_
      refine lv_bipush (v := 10) hx hb dX12_moodsBy_7 (by decide) ?_
      obtain ⟨hc_1t, hc_1f⟩ := hw
      refine lv_icmp_ge (tgt := 43) hx hb dX12_moodsBy_9 (by decide) (fun c_1 => ?_) (fun c_1 => ?_)
      · have hw := hc_1t c_1
        clear hc_1t hc_1f
        refine lv_iload_n hx hb dX12_moodsBy_43 rfl (lv_at hl 3 rfl) ?_
        exact W.iret (v := x3) hx hb hr (fun t ht hW => ⟨⟨x3, S, rfl, hw, by rw [ht]; exact hP, va_K.moved hW.alike hK, hD⟩, hS.F ht⟩) hS.2.2 dX12_moodsBy_44
      · have hw := hc_1f c_1
        clear hc_1t hc_1f
        refine lv_iload_n hx hb dX12_moodsBy_12 rfl (lv_at hl 3 rfl) ?_
        refine lv_iload_n hx hb dX12_moodsBy_13 rfl (lv_at hl 2 rfl) ?_
        refine lv_iload hx hb dX12_moodsBy_14 (lv_at hl 4 rfl) ?_
        refine k_callSi (As := [.int x2, .int x4]) (rest := [.int x3]) ⟨hx, hb, hml, hown, hts⟩ (cM_has l D h cy _ _ _ _ hw) (va_cwS 2 hts gX12_moodsBy_X12_has rfl rfl rfl (by decide +kernel) ⟨Nat.le_of_ble_eq_true rfl, Nat.le_of_ble_eq_true rfl⟩) hK hP hD hS hA rfl hl.1 rfl (Nat.le_of_ble_eq_true rfl) dX12_moodsBy_16 ⟨Nat.zero_le _, Nat.zero_le _⟩ (fun r_2 S_3 H locs hw hP hD hS => ?_)
        obtain ⟨hc_4t, hc_4f⟩ := hw
        refine lv_if_eq (tgt := 34) hx hb dX12_moodsBy_19 (by decide) (fun c_4 => ?_) (fun c_4 => ?_)
        · have hw := hc_4t c_4
          clear hc_4t hc_4f
          refine lv_iconst (v := 0) hx hb dX12_moodsBy_34 (by decide) ?_
          refine lv_ior hx hb dX12_moodsBy_35 ?_
          refine lv_istore_n (lv' := [(3, .int (x3 ||| 0)), (0, .ref (h 31)), (1, .int x1), (2, .int x2), (4, .int x4)]) hx hb dX12_moodsBy_36 rfl hl (by decide) rfl (fun ls hl => ?_)
          refine lv_iinc (v := x4 + 1) (lv' := [(4, .int (x4 + 1)), (3, .int (x3 ||| 0)), (0, .ref (h 31)), (1, .int x1), (2, .int x2)]) hx hb dX12_moodsBy_37 hl (k := 4) rfl (k_inc (by decide)) (by decide) rfl (fun ls hl => ?_)
          refine lv_goto (tgt := 5) hx hb dX12_moodsBy_40 (by decide) ?_
          exact ih_5 x1 x2 (x3 ||| 0) (x4 + 1) S_3 _ _ _ hw hP hD hS (lv_sub hl [2, 3, 4, 1, 0] rfl)
        · have hw := hc_4f c_4
          clear hc_4t hc_4f
          refine lv_iconst (v := 1) hx hb dX12_moodsBy_22 (by decide) ?_
          refine lv_aload_n hx hb dX12_moodsBy_23 rfl (lv_at hl 0 rfl) ?_
          refine lv_iload_n hx hb dX12_moodsBy_24 rfl (lv_at hl 1 rfl) ?_
          refine lv_iload hx hb dX12_moodsBy_25 (lv_at hl 4 rfl) ?_
          refine k_callVi (As := [.int x1, .int x4]) (rest := [.int 1, .int x3]) ⟨hx, hb, hml, hown, hts⟩ (cM_moodBy l D h cy _ _ _ _ hw) (cwV 2 hts gX12_moodsBy_X12_moodBy rfl rfl rfl (by decide +kernel) ⟨Nat.le_of_ble_eq_true rfl, Nat.le_of_ble_eq_true rfl⟩) (va_recv hK hP (ci := 11) (q0 := 0) rfl rfl) hK hP hD hS hA rfl hl.1 rfl (Nat.le_of_ble_eq_true rfl) dX12_moodsBy_27 ⟨Nat.zero_le _, Nat.zero_le _⟩ (fun r_5 S_6 H locs hw hP hD hS => ?_)
          refine k_ishl hx hb dX12_moodsBy_30 ?_
          refine lv_goto (tgt := 35) hx hb dX12_moodsBy_31 (by decide) ?_
          refine lv_ior hx hb dX12_moodsBy_35 ?_
          refine lv_istore_n (lv' := [(3, .int (x3 ||| (k_shl 1 r_5))), (0, .ref (h 31)), (1, .int x1), (2, .int x2), (4, .int x4)]) hx hb dX12_moodsBy_36 rfl hl (by decide) rfl (fun ls hl => ?_)
          refine lv_iinc (v := x4 + 1) (lv' := [(4, .int (x4 + 1)), (3, .int (x3 ||| (k_shl 1 r_5))), (0, .ref (h 31)), (1, .int x1), (2, .int x2)]) hx hb dX12_moodsBy_37 hl (k := 4) rfl (k_inc (by decide)) (by decide) rfl (fun ls hl => ?_)
          refine lv_goto (tgt := 5) hx hb dX12_moodsBy_40 (by decide) ?_
          exact ih_5 x1 x2 (x3 ||| (k_shl 1 r_5)) (x4 + 1) S_6 _ _ _ hw hP hD hS (lv_sub hl [2, 3, 4, 1, 0] rfl)
  refine lv_iconst (v := 0) hx hb dX12_moodsBy_0 (by decide) ?_
  refine lv_istore_n (lv' := [(3, .int 0), (0, .ref (h 31)), (1, .int p1), (2, .int p2)]) hx hb dX12_moodsBy_1 rfl hl (by decide) rfl (fun ls hl => ?_)
  refine lv_iconst (v := 0) hx hb dX12_moodsBy_2 (by decide) ?_
  refine lv_istore (lv' := [(4, .int 0), (3, .int 0), (0, .ref (h 31)), (1, .int p1), (2, .int p2)]) hx hb dX12_moodsBy_3 hl (by decide) rfl (fun ls hl => ?_)
  obtain ⟨n_5, hw⟩ := hw
  exact L_5 n_5 p1 p2 0 0 S _ _ _ hw hP hD hS (lv_sub hl [2, 3, 4, 1, 0] rfl)
def wM_all_63 (post : Int32 → MS → Prop) (K12 : Int32 → Int32 → MS → Prop) : Nat → Int32 → Int32 → Int32 → MS → Prop
  | 0, _, _, _, _ => False
  | n + 1, x1, x2, x3, S => ((5 ≤ x3 → K12 x1 (x2 + 1) S) ∧ (¬ (5 ≤ x3) → (vp_in x2 10000 ∧ wM_moodsBy x3 ((ms_line S) x2.toNatClampNeg) S (fun r_2 S_3 => (vp_in x2 10000 ∧ wM_comeTo r_2 ((ms_line S_3) x2.toNatClampNeg) x3 S_3 (fun S_5 => wM_all_63 post K12 n x1 x2 (x3 + 1) S_5))))))
def wM_all_12 (post : Int32 → MS → Prop) : Nat → Int32 → Int32 → MS → Prop
  | 0, _, _, _ => False
  | n + 1, x1, x2, S => (((ms_lined S) ≤ x2 → post (-2) S) ∧ (¬ ((ms_lined S) ≤ x2) → (vp_in x2 10000 ∧ (vp_in ((ms_line S) x2.toNatClampNeg) 10000 ∧ ((20 < ((ms_depth S) ((ms_line S) x2.toNatClampNeg).toNatClampNeg) → post (-2) S) ∧ (¬ (20 < ((ms_depth S) ((ms_line S) x2.toNatClampNeg).toNatClampNeg)) → (vp_in x2 10000 ∧ wM_bits ((ms_line S) x2.toNatClampNeg) S (fun r_3 S_4 => ((r_3 = 1 → (vp_in x2 10000 ∧ wM_wayTo ((ms_line S_4) x2.toNatClampNeg) x1 S_4 (fun r_6 S_7 => post r_6 S_7))) ∧ (¬ (r_3 = 1) → ∃ k_ : Nat, wM_all_63 post (wM_all_12 post n) k_ x1 x2 0 S_4))))))))))
def wM_all (p1 : Int32) (S : MS) (post : Int32 → MS → Prop) : Prop := wM_beginAt 1023 1024 S (fun S_2 => ∃ k_ : Nat, wM_all_12 post k_ p1 0 S_2)
set_option maxHeartbeats 4000000 in
set_option maxRecDepth 100000 in
theorem cM_all (l : Launch) (D : va_G) (h : Nat → Nat) (cy : Nat → ClassId) (p1 : Int32) (S : MS) (post : Int32 → MS → Prop) (hw : wM_all p1 S post) : k_Mi l yX12_all wsX12_all { frames := 2, cells := 0, slots := 0, locals := 46 } D (tyM cy) (wM h cy) [.ref (h 31), .int p1] S post := by
  intro sz
  refine Met.ofW (cc := cX12_all) (maxL := 4) (ret := (some .int)) (by decide) rfl ?_
  intro p e s m args below meth c s₁ B hml hv
  obtain ⟨rfl, hsz, hP, hK, hD0⟩ := hv
  have hx := B.exec
  have hb := B.bytes
  have hr := B.returns
  have hts := atoms_spec (ws := wsX12_all) B.pre
  have hown : s.vm.findClass RX12 = some m.cls := findClass_of_methodNamed B.named
  have hlocks := B.notSynchronized
  subst hsz
  have hD := hD0.self (sz := s.heap.size)
  generalize hAe : va_A (wM h cy S) s.heap.size = A at hD ⊢
  have hA : ∀ q : Nat, s.heap.size ≤ q → A q := fun q h => by rw [← hAe]; exact Or.inr h
  have hS : va_S A s.heap s.heap [] := va_S.rf
  have hin : ∀ w ∈ wsX120, w ∈ wsX12_all := fun _ h => List.mem_cons_of_mem _ (List.mem_append_right _ h)
  have w46 := hts (.fieldLink RX12 46 "ClownsMournModel" "line" "[I") (List.mem_of_getElem? (i := 3) rfl)
  have w55 := hts (.fieldLink RX12 55 "ClownsMournModel" "depth" "[I") (List.mem_of_getElem? (i := 2) rfl)
  have w417 := hts (.fieldLink RX12 417 "ClownsMournModel" "lined" "I") (List.mem_of_getElem? (i := 1) rfl)
  have hl := lv_entry ([.ref (h 31), .int p1]) (n := 4) (Nat.le_of_ble_eq_true rfl)
  rw [lg_entry_eq]
  generalize (lg_sl ([.ref (h 31), .int p1]) ++ List.replicate (4 - (lg_sl ([.ref (h 31), .int p1])).length) Slot.unset).toArray = ls at hl ⊢
  have hl : lv_has ls 4 [(0, .ref (h 31)), (1, .int p1)] := hl
  unfold wM_all at hw
  clear hD0
  have L_12 : ∀ (n12 : Nat) (x1 : Int32) (x2 : Int32) (S : MS) (H : Heap) (locs : List Loc) (ls : Array Slot), wM_all_12 post n12 x1 x2 S → va_P D vwCl (wM h cy S) H → va_D A (wM h cy S) → va_S A s.heap H locs → lv_has ls 4 [(0, .ref (h 31)), (1, .int x1), (2, .int x2)] → W p l e (headSpec wsX12_all { frames := 2, cells := 0, slots := 0, locals := 46 }).room s m (([.ref (h 31), .int p1] : List Value).toArray) below meth c H locs 0 0 (MQ below (va_Qi post (k_Post D (tyM cy) (wM h cy) A) A) (([.ref (h 31), .int p1] : List Value).toArray) s 0 0 A) (F0 m 12 ls []) := by
    intro n12
    induction n12 with
    | zero => intro x1 x2 S H locs ls hw; exact False.elim hw
    | succ n12 ih_12 =>
      have L_63 : ∀ (n63 : Nat) (x1 : Int32) (x2 : Int32) (x3 : Int32) (S : MS) (H : Heap) (locs : List Loc) (ls : Array Slot), wM_all_63 post (wM_all_12 post n12) n63 x1 x2 x3 S → va_P D vwCl (wM h cy S) H → va_D A (wM h cy S) → va_S A s.heap H locs → lv_has ls 4 [(0, .ref (h 31)), (1, .int x1), (2, .int x2), (3, .int x3)] → W p l e (headSpec wsX12_all { frames := 2, cells := 0, slots := 0, locals := 46 }).room s m (([.ref (h 31), .int p1] : List Value).toArray) below meth c H locs 0 0 (MQ below (va_Qi post (k_Post D (tyM cy) (wM h cy) A) A) (([.ref (h 31), .int p1] : List Value).toArray) s 0 0 A) (F0 m 63 ls []) := by
        intro n63
        induction n63 with
        | zero => intro x1 x2 x3 S H locs ls hw; exact False.elim hw
        | succ n63 ih_63 =>
          intro x1 x2 x3 S H locs ls hw hP hD hS hl
          unfold wM_all_63 at hw
          refine lv_iload_n hx hb dX12_all_63 rfl (lv_at hl 3 rfl) ?_
          refine lv_iconst (v := 5) hx hb dX12_all_64 (by decide) ?_
          obtain ⟨hc_1t, hc_1f⟩ := hw
          refine lv_icmp_ge (tgt := 96) hx hb dX12_all_65 (by decide) (fun c_1 => ?_) (fun c_1 => ?_)
          · have hw := hc_1t c_1
            clear hc_1t hc_1f
            refine lv_iinc (v := x2 + 1) (lv' := [(2, .int (x2 + 1)), (0, .ref (h 31)), (1, .int x1), (3, .int x3)]) hx hb dX12_all_96 hl (k := 2) rfl (k_inc (by decide)) (by decide) rfl (fun ls hl => ?_)
            refine lv_goto (tgt := 12) hx hb dX12_all_99 (by decide) ?_
            exact ih_12 x1 (x2 + 1) S _ _ _ hw hP hD hS (lv_sub hl [1, 2, 0] rfl)
          · have hw := hc_1f c_1
            clear hc_1t hc_1f
            refine lv_aload_n hx hb dX12_all_68 rfl (lv_at hl 0 rfl) ?_
            refine lv_aload_n hx hb dX12_all_69 rfl (lv_at hl 0 rfl) ?_
            refine lv_iload_n hx hb dX12_all_70 rfl (lv_at hl 3 rfl) ?_
            refine lv_aload_n hx hb dX12_all_71 rfl (lv_at hl 0 rfl) ?_
            refine va_get (D := D) (ci := 11) (v := .ref (h 24)) (C := RX12) (T := TX12) (N := 31) hx hb hts hin hown hK hP 0 rfl rfl 24 (by decide) w46 (fun _ h9 => h9) rfl dX12_all_72 ?_
            refine lv_iload_n hx hb dX12_all_75 rfl (lv_at hl 2 rfl) ?_
            obtain ⟨hi_7, hw⟩ := hw
            refine va_iald (f := (ms_line S)) hx hb hK hP 10 9 rfl rfl hi_7 dX12_all_76 ?_
            refine k_callVi (As := [.int x3, .int ((ms_line S) x2.toNatClampNeg)]) (rest := [.ref (h 31)]) ⟨hx, hb, hml, hown, hts⟩ (cM_moodsBy l D h cy _ _ _ _ hw) (cwV 2 hts gX12_all_X12_moodsBy rfl rfl rfl (by decide +kernel) ⟨Nat.le_of_ble_eq_true rfl, Nat.le_of_ble_eq_true rfl⟩) (va_recv hK hP (ci := 11) (q0 := 0) rfl rfl) hK hP hD hS hA rfl hl.1 rfl (Nat.le_of_ble_eq_true rfl) dX12_all_77 ⟨Nat.zero_le _, Nat.zero_le _⟩ (fun r_2 S_3 H locs hw hP hD hS => ?_)
            refine lv_aload_n hx hb dX12_all_80 rfl (lv_at hl 0 rfl) ?_
            refine va_get (D := D) (ci := 11) (v := .ref (h 24)) (C := RX12) (T := TX12) (N := 31) hx hb hts hin hown hK hP 0 rfl rfl 24 (by decide) w46 (fun _ h9 => h9) rfl dX12_all_81 ?_
            refine lv_iload_n hx hb dX12_all_84 rfl (lv_at hl 2 rfl) ?_
            obtain ⟨hi_6, hw⟩ := hw
            refine va_iald (f := (ms_line S_3)) hx hb hK hP 10 9 rfl rfl hi_6 dX12_all_85 ?_
            refine lv_iload_n hx hb dX12_all_86 rfl (lv_at hl 3 rfl) ?_
            refine k_callVv (As := [.int r_2, .int ((ms_line S_3) x2.toNatClampNeg), .int x3]) (rest := []) ⟨hx, hb, hml, hown, hts⟩ (cM_comeTo l D h cy _ _ _ _ _ hw) (cwV 3 hts gX12_all_X12_comeTo rfl rfl rfl (by decide +kernel) ⟨Nat.le_of_ble_eq_true rfl, Nat.le_of_ble_eq_true rfl⟩) (va_recv hK hP (ci := 11) (q0 := 0) rfl rfl) hK hP hD hS hA rfl hl.1 rfl (Nat.le_of_ble_eq_true rfl) dX12_all_87 ⟨Nat.zero_le _, Nat.zero_le _⟩ (fun S_5 H locs hw hP hD hS => ?_)
            refine lv_iinc (v := x3 + 1) (lv' := [(3, .int (x3 + 1)), (0, .ref (h 31)), (1, .int x1), (2, .int x2)]) hx hb dX12_all_90 hl (k := 3) rfl (k_inc (by decide)) (by decide) rfl (fun ls hl => ?_)
            refine lv_goto (tgt := 63) hx hb dX12_all_93 (by decide) ?_
            exact ih_63 x1 x2 (x3 + 1) S_5 _ _ _ hw hP hD hS (lv_sub hl [1, 2, 3, 0] rfl)
      intro x1 x2 S H locs ls hw hP hD hS hl
      unfold wM_all_12 at hw
      refine lv_iload_n hx hb dX12_all_12 rfl (lv_at hl 2 rfl) ?_
      refine lv_aload_n hx hb dX12_all_13 rfl (lv_at hl 0 rfl) ?_
      refine va_get (D := D) (ci := 11) (v := .int (ms_lined S)) (C := RX12) (T := TX12) (N := 31) hx hb hts hin hown hK hP 0 rfl rfl 28 (by decide) w417 (fun _ h9 => h9) rfl dX12_all_14 ?_
      obtain ⟨hc_8t, hc_8f⟩ := hw
      refine lv_icmp_ge (tgt := 102) hx hb dX12_all_17 (by decide) (fun c_8 => ?_) (fun c_8 => ?_)
      · have hw := hc_8t c_8
        clear hc_8t hc_8f
        refine lv_bipush (v := (-2)) hx hb dX12_all_102 (by decide) ?_
        exact W.iret (v := (-2)) hx hb hr (fun t ht hW => ⟨⟨(-2), S, rfl, hw, by rw [ht]; exact hP, va_K.moved hW.alike hK, hD⟩, hS.F ht⟩) hS.2.2 dX12_all_104
      · have hw := hc_8f c_8
        clear hc_8t hc_8f
        refine lv_aload_n hx hb dX12_all_20 rfl (lv_at hl 0 rfl) ?_
        refine va_get (D := D) (ci := 11) (v := .ref (h 27)) (C := RX12) (T := TX12) (N := 31) hx hb hts hin hown hK hP 0 rfl rfl 27 (by decide) w55 (fun _ h9 => h9) rfl dX12_all_21 ?_
        refine lv_aload_n hx hb dX12_all_24 rfl (lv_at hl 0 rfl) ?_
        refine va_get (D := D) (ci := 11) (v := .ref (h 24)) (C := RX12) (T := TX12) (N := 31) hx hb hts hin hown hK hP 0 rfl rfl 24 (by decide) w46 (fun _ h9 => h9) rfl dX12_all_25 ?_
        refine lv_iload_n hx hb dX12_all_28 rfl (lv_at hl 2 rfl) ?_
        obtain ⟨hi_18, hw⟩ := hw
        refine va_iald (f := (ms_line S)) hx hb hK hP 10 9 rfl rfl hi_18 dX12_all_29 ?_
        obtain ⟨hi_17, hw⟩ := hw
        refine va_iald (f := (ms_depth S)) hx hb hK hP 13 12 rfl rfl hi_17 dX12_all_30 ?_
        refine lv_bipush (v := 20) hx hb dX12_all_31 (by decide) ?_
        obtain ⟨hc_9t, hc_9f⟩ := hw
        refine lv_icmp_gt (tgt := 102) hx hb dX12_all_33 (by decide) (fun c_9 => ?_) (fun c_9 => ?_)
        · have hw := hc_9t c_9
          clear hc_9t hc_9f
          refine lv_bipush (v := (-2)) hx hb dX12_all_102 (by decide) ?_
          exact W.iret (v := (-2)) hx hb hr (fun t ht hW => ⟨⟨(-2), S, rfl, hw, by rw [ht]; exact hP, va_K.moved hW.alike hK, hD⟩, hS.F ht⟩) hS.2.2 dX12_all_104
        · have hw := hc_9f c_9
          clear hc_9t hc_9f
          refine lv_aload_n hx hb dX12_all_36 rfl (lv_at hl 0 rfl) ?_
          refine va_get (D := D) (ci := 11) (v := .ref (h 24)) (C := RX12) (T := TX12) (N := 31) hx hb hts hin hown hK hP 0 rfl rfl 24 (by decide) w46 (fun _ h9 => h9) rfl dX12_all_37 ?_
          refine lv_iload_n hx hb dX12_all_40 rfl (lv_at hl 2 rfl) ?_
          obtain ⟨hi_16, hw⟩ := hw
          refine va_iald (f := (ms_line S)) hx hb hK hP 10 9 rfl rfl hi_16 dX12_all_41 ?_
          refine k_callSi (As := [.int ((ms_line S) x2.toNatClampNeg)]) (rest := []) ⟨hx, hb, hml, hown, hts⟩ (cM_bits l D h cy _ _ _ hw) (va_cwS 1 hts gX12_all_X12_bits rfl rfl rfl (by decide +kernel) ⟨Nat.le_of_ble_eq_true rfl, Nat.le_of_ble_eq_true rfl⟩) hK hP hD hS hA rfl hl.1 rfl (Nat.le_of_ble_eq_true rfl) dX12_all_42 ⟨Nat.zero_le _, Nat.zero_le _⟩ (fun r_10 S_11 H locs hw hP hD hS => ?_)
          refine lv_iconst (v := 1) hx hb dX12_all_45 (by decide) ?_
          obtain ⟨hc_12t, hc_12f⟩ := hw
          refine lv_icmp_ne (tgt := 61) hx hb dX12_all_46 (by decide) (fun c_12 => ?_) (fun c_12 => ?_)
          · have hw := hc_12f c_12
            clear hc_12t hc_12f
            refine lv_iconst (v := 0) hx hb dX12_all_61 (by decide) ?_
            refine lv_istore_n (lv' := [(3, .int 0), (0, .ref (h 31)), (1, .int x1), (2, .int x2)]) hx hb dX12_all_62 rfl hl (by decide) rfl (fun ls hl => ?_)
            obtain ⟨n_63, hw⟩ := hw
            exact L_63 n_63 x1 x2 0 S_11 _ _ _ hw hP hD hS (lv_sub hl [1, 2, 3, 0] rfl)
          · have hw := hc_12t c_12
            clear hc_12t hc_12f
            refine lv_aload_n hx hb dX12_all_49 rfl (lv_at hl 0 rfl) ?_
            refine lv_aload_n hx hb dX12_all_50 rfl (lv_at hl 0 rfl) ?_
            refine va_get (D := D) (ci := 11) (v := .ref (h 24)) (C := RX12) (T := TX12) (N := 31) hx hb hts hin hown hK hP 0 rfl rfl 24 (by decide) w46 (fun _ h9 => h9) rfl dX12_all_51 ?_
            refine lv_iload_n hx hb dX12_all_54 rfl (lv_at hl 2 rfl) ?_
            obtain ⟨hi_15, hw⟩ := hw
            refine va_iald (f := (ms_line S_11)) hx hb hK hP 10 9 rfl rfl hi_15 dX12_all_55 ?_
            refine lv_iload_n hx hb dX12_all_56 rfl (lv_at hl 1 rfl) ?_
            refine k_callVi (As := [.int ((ms_line S_11) x2.toNatClampNeg), .int x1]) (rest := []) ⟨hx, hb, hml, hown, hts⟩ (cM_wayTo l D h cy _ _ _ _ hw) (cwV 2 hts gX12_all_X12_wayTo rfl rfl rfl (by decide +kernel) ⟨Nat.le_of_ble_eq_true rfl, Nat.le_of_ble_eq_true rfl⟩) (va_recv hK hP (ci := 11) (q0 := 0) rfl rfl) hK hP hD hS hA rfl hl.1 rfl (Nat.le_of_ble_eq_true rfl) dX12_all_57 ⟨Nat.zero_le _, Nat.zero_le _⟩ (fun r_13 S_14 H locs hw hP hD hS => ?_)
            exact W.iret (v := r_13) hx hb hr (fun t ht hW => ⟨⟨r_13, S_14, rfl, hw, by rw [ht]; exact hP, va_K.moved hW.alike hK, hD⟩, hS.F ht⟩) hS.2.2 dX12_all_60
  refine lv_aload_n hx hb dX12_all_0 rfl (lv_at hl 0 rfl) ?_
  refine lv_sipush (v := 1023) hx hb dX12_all_1 (by decide) ?_
  refine lv_sipush (v := 1024) hx hb dX12_all_4 (by decide) ?_
  refine k_callVv (As := [.int 1023, .int 1024]) (rest := []) ⟨hx, hb, hml, hown, hts⟩ (cM_beginAt l D h cy _ _ _ _ hw) (cwV 2 hts gX12_all_X12_beginAt rfl rfl rfl (by decide +kernel) ⟨Nat.le_of_ble_eq_true rfl, Nat.le_of_ble_eq_true rfl⟩) (va_recv hK hP (ci := 11) (q0 := 0) rfl rfl) hK hP hD hS hA rfl hl.1 rfl (Nat.le_of_ble_eq_true rfl) dX12_all_7 ⟨Nat.zero_le _, Nat.zero_le _⟩ (fun S_20 H locs hw hP hD hS => ?_)
  refine lv_iconst (v := 0) hx hb dX12_all_10 (by decide) ?_
  refine lv_istore_n (lv' := [(2, .int 0), (0, .ref (h 31)), (1, .int p1)]) hx hb dX12_all_11 rfl hl (by decide) rfl (fun ls hl => ?_)
  obtain ⟨n_12, hw⟩ := hw
  exact L_12 n_12 p1 0 S_20 _ _ _ hw hP hD hS (lv_sub hl [1, 2, 0] rfl)
def wM_behindFall (p1 : Int32) (p2 : Int32) (p3 : Int32) (S : MS) (post : Int32 → MS → Prop) : Prop := wM_own p1 1 S (fun r_1 S_2 => wM_put r_1 0 (p2 / 100) S_2 (fun S_4 => wM_put r_1 1 (k_rem (p2 / 10) 10) S_4 (fun S_6 => wM_lay p1 0 (k_rem p2 10) S_6 (fun S_8 => wM_comfortNow p1 p3 S_8 (fun S_10 => wM_get r_1 0 S_10 (fun r_11 S_12 => wM_get r_1 1 S_12 (fun r_13 S_14 => post ((((r_11 * 100) + (r_13 * 10)) + (k_rem p2 10)) + 1) S_14)))))))
set_option maxHeartbeats 4000000 in
set_option maxRecDepth 100000 in
theorem cM_behindFall (l : Launch) (D : va_G) (h : Nat → Nat) (cy : Nat → ClassId) (p1 : Int32) (p2 : Int32) (p3 : Int32) (S : MS) (post : Int32 → MS → Prop) (hw : wM_behindFall p1 p2 p3 S post) : k_Mi l yX12_behindFall wsX12_behindFall { frames := 6, cells := 0, slots := 0, locals := 144 } D (tyM cy) (wM h cy) [.ref (h 31), .int p1, .int p2, .int p3] S post := by
  intro sz
  refine Met.ofW (cc := cX12_behindFall) (maxL := 5) (ret := (some .int)) (by decide) rfl ?_
  intro p e s m args below meth c s₁ B hml hv
  obtain ⟨rfl, hsz, hP, hK, hD0⟩ := hv
  have hx := B.exec
  have hb := B.bytes
  have hr := B.returns
  have hts := atoms_spec (ws := wsX12_behindFall) B.pre
  have hown : s.vm.findClass RX12 = some m.cls := findClass_of_methodNamed B.named
  have hlocks := B.notSynchronized
  subst hsz
  have hD := hD0.self (sz := s.heap.size)
  generalize hAe : va_A (wM h cy S) s.heap.size = A at hD ⊢
  have hA : ∀ q : Nat, s.heap.size ≤ q → A q := fun q h => by rw [← hAe]; exact Or.inr h
  have hS : va_S A s.heap s.heap [] := va_S.rf
  have hl := lv_entry ([.ref (h 31), .int p1, .int p2, .int p3]) (n := 5) (Nat.le_of_ble_eq_true rfl)
  rw [lg_entry_eq]
  generalize (lg_sl ([.ref (h 31), .int p1, .int p2, .int p3]) ++ List.replicate (5 - (lg_sl ([.ref (h 31), .int p1, .int p2, .int p3])).length) Slot.unset).toArray = ls at hl ⊢
  have hl : lv_has ls 5 [(0, .ref (h 31)), (1, .int p1), (2, .int p2), (3, .int p3)] := hl
  unfold wM_behindFall at hw
  clear hD0
  refine lv_aload_n hx hb dX12_behindFall_0 rfl (lv_at hl 0 rfl) ?_
  refine lv_iload_n hx hb dX12_behindFall_1 rfl (lv_at hl 1 rfl) ?_
  refine lv_iconst (v := 1) hx hb dX12_behindFall_2 (by decide) ?_
  refine k_callVi (As := [.int p1, .int 1]) (rest := []) ⟨hx, hb, hml, hown, hts⟩ (cM_own l D h cy _ _ _ _ hw) (cwV 2 hts gX12_behindFall_X12_own rfl rfl rfl (by decide +kernel) ⟨Nat.le_of_ble_eq_true rfl, Nat.le_of_ble_eq_true rfl⟩) (va_recv hK hP (ci := 11) (q0 := 0) rfl rfl) hK hP hD hS hA rfl hl.1 rfl (Nat.le_of_ble_eq_true rfl) dX12_behindFall_3 ⟨Nat.zero_le _, Nat.zero_le _⟩ (fun r_1 S_2 H locs hw hP hD hS => ?_)
  refine lv_istore (lv' := [(4, .int r_1), (0, .ref (h 31)), (1, .int p1), (2, .int p2), (3, .int p3)]) hx hb dX12_behindFall_6 hl (by decide) rfl (fun ls hl => ?_)
  refine lv_aload_n hx hb dX12_behindFall_8 rfl (lv_at hl 1 rfl) ?_
  refine lv_iload hx hb dX12_behindFall_9 (lv_at hl 0 rfl) ?_
  refine lv_iconst (v := 0) hx hb dX12_behindFall_11 (by decide) ?_
  refine lv_iload_n hx hb dX12_behindFall_12 rfl (lv_at hl 3 rfl) ?_
  refine lv_bipush (v := 100) hx hb dX12_behindFall_13 (by decide) ?_
  refine lv_idiv hx hb dX12_behindFall_15 (by decide) ?_
  refine k_callVv (As := [.int r_1, .int 0, .int (p2 / 100)]) (rest := []) ⟨hx, hb, hml, hown, hts⟩ (cM_put l D h cy _ _ _ _ _ hw) (cwV 3 hts gX12_behindFall_X12_put rfl rfl rfl (by decide +kernel) ⟨Nat.le_of_ble_eq_true rfl, Nat.le_of_ble_eq_true rfl⟩) (va_recv hK hP (ci := 11) (q0 := 0) rfl rfl) hK hP hD hS hA rfl hl.1 rfl (Nat.le_of_ble_eq_true rfl) dX12_behindFall_16 ⟨Nat.zero_le _, Nat.zero_le _⟩ (fun S_4 H locs hw hP hD hS => ?_)
  refine lv_aload_n hx hb dX12_behindFall_19 rfl (lv_at hl 1 rfl) ?_
  refine lv_iload hx hb dX12_behindFall_20 (lv_at hl 0 rfl) ?_
  refine lv_iconst (v := 1) hx hb dX12_behindFall_22 (by decide) ?_
  refine lv_iload_n hx hb dX12_behindFall_23 rfl (lv_at hl 3 rfl) ?_
  refine lv_bipush (v := 10) hx hb dX12_behindFall_24 (by decide) ?_
  refine lv_idiv hx hb dX12_behindFall_26 (by decide) ?_
  refine lv_bipush (v := 10) hx hb dX12_behindFall_27 (by decide) ?_
  refine k_irem hx hb dX12_behindFall_29 (by decide) ?_
  refine k_callVv (As := [.int r_1, .int 1, .int (k_rem (p2 / 10) 10)]) (rest := []) ⟨hx, hb, hml, hown, hts⟩ (cM_put l D h cy _ _ _ _ _ hw) (cwV 3 hts gX12_behindFall_X12_put rfl rfl rfl (by decide +kernel) ⟨Nat.le_of_ble_eq_true rfl, Nat.le_of_ble_eq_true rfl⟩) (va_recv hK hP (ci := 11) (q0 := 0) rfl rfl) hK hP hD hS hA rfl hl.1 rfl (Nat.le_of_ble_eq_true rfl) dX12_behindFall_30 ⟨Nat.zero_le _, Nat.zero_le _⟩ (fun S_6 H locs hw hP hD hS => ?_)
  refine lv_aload_n hx hb dX12_behindFall_33 rfl (lv_at hl 1 rfl) ?_
  refine lv_iload_n hx hb dX12_behindFall_34 rfl (lv_at hl 2 rfl) ?_
  refine lv_iconst (v := 0) hx hb dX12_behindFall_35 (by decide) ?_
  refine lv_iload_n hx hb dX12_behindFall_36 rfl (lv_at hl 3 rfl) ?_
  refine lv_bipush (v := 10) hx hb dX12_behindFall_37 (by decide) ?_
  refine k_irem hx hb dX12_behindFall_39 (by decide) ?_
  refine k_callVv (As := [.int p1, .int 0, .int (k_rem p2 10)]) (rest := []) ⟨hx, hb, hml, hown, hts⟩ (cM_lay l D h cy _ _ _ _ _ hw) (cwV 3 hts gX12_behindFall_X12_lay rfl rfl rfl (by decide +kernel) ⟨Nat.le_of_ble_eq_true rfl, Nat.le_of_ble_eq_true rfl⟩) (va_recv hK hP (ci := 11) (q0 := 0) rfl rfl) hK hP hD hS hA rfl hl.1 rfl (Nat.le_of_ble_eq_true rfl) dX12_behindFall_40 ⟨Nat.zero_le _, Nat.zero_le _⟩ (fun S_8 H locs hw hP hD hS => ?_)
  refine lv_aload_n hx hb dX12_behindFall_43 rfl (lv_at hl 1 rfl) ?_
  refine lv_iload_n hx hb dX12_behindFall_44 rfl (lv_at hl 2 rfl) ?_
  refine lv_iload_n hx hb dX12_behindFall_45 rfl (lv_at hl 4 rfl) ?_
  refine k_callVv (As := [.int p1, .int p3]) (rest := []) ⟨hx, hb, hml, hown, hts⟩ (cM_comfortNow l D h cy _ _ _ _ hw) (cwV 2 hts gX12_behindFall_X12_comfortNow rfl rfl rfl (by decide +kernel) ⟨Nat.le_of_ble_eq_true rfl, Nat.le_of_ble_eq_true rfl⟩) (va_recv hK hP (ci := 11) (q0 := 0) rfl rfl) hK hP hD hS hA rfl hl.1 rfl (Nat.le_of_ble_eq_true rfl) dX12_behindFall_46 ⟨Nat.zero_le _, Nat.zero_le _⟩ (fun S_10 H locs hw hP hD hS => ?_)
  refine lv_aload_n hx hb dX12_behindFall_49 rfl (lv_at hl 1 rfl) ?_
  refine lv_iload hx hb dX12_behindFall_50 (lv_at hl 0 rfl) ?_
  refine lv_iconst (v := 0) hx hb dX12_behindFall_52 (by decide) ?_
  refine k_callVi (As := [.int r_1, .int 0]) (rest := []) ⟨hx, hb, hml, hown, hts⟩ (cM_get l D h cy _ _ _ _ hw) (cwV 2 hts gX12_behindFall_X12_get rfl rfl rfl (by decide +kernel) ⟨Nat.le_of_ble_eq_true rfl, Nat.le_of_ble_eq_true rfl⟩) (va_recv hK hP (ci := 11) (q0 := 0) rfl rfl) hK hP hD hS hA rfl hl.1 rfl (Nat.le_of_ble_eq_true rfl) dX12_behindFall_53 ⟨Nat.zero_le _, Nat.zero_le _⟩ (fun r_11 S_12 H locs hw hP hD hS => ?_)
  refine lv_bipush (v := 100) hx hb dX12_behindFall_56 (by decide) ?_
  refine lv_imul hx hb dX12_behindFall_58 ?_
  refine lv_aload_n hx hb dX12_behindFall_59 rfl (lv_at hl 1 rfl) ?_
  refine lv_iload hx hb dX12_behindFall_60 (lv_at hl 0 rfl) ?_
  refine lv_iconst (v := 1) hx hb dX12_behindFall_62 (by decide) ?_
  refine k_callVi (As := [.int r_1, .int 1]) (rest := [.int (r_11 * 100)]) ⟨hx, hb, hml, hown, hts⟩ (cM_get l D h cy _ _ _ _ hw) (cwV 2 hts gX12_behindFall_X12_get rfl rfl rfl (by decide +kernel) ⟨Nat.le_of_ble_eq_true rfl, Nat.le_of_ble_eq_true rfl⟩) (va_recv hK hP (ci := 11) (q0 := 0) rfl rfl) hK hP hD hS hA rfl hl.1 rfl (Nat.le_of_ble_eq_true rfl) dX12_behindFall_63 ⟨Nat.zero_le _, Nat.zero_le _⟩ (fun r_13 S_14 H locs hw hP hD hS => ?_)
  refine lv_bipush (v := 10) hx hb dX12_behindFall_66 (by decide) ?_
  refine lv_imul hx hb dX12_behindFall_68 ?_
  refine lv_iadd hx hb dX12_behindFall_69 ?_
  refine lv_iload_n hx hb dX12_behindFall_70 rfl (lv_at hl 3 rfl) ?_
  refine lv_bipush (v := 10) hx hb dX12_behindFall_71 (by decide) ?_
  refine k_irem hx hb dX12_behindFall_73 (by decide) ?_
  refine lv_iadd hx hb dX12_behindFall_74 ?_
  refine lv_iconst (v := 1) hx hb dX12_behindFall_75 (by decide) ?_
  refine lv_iadd hx hb dX12_behindFall_76 ?_
  exact W.iret (v := (((r_11 * 100) + (r_13 * 10)) + (k_rem p2 10)) + 1) hx hb hr (fun t ht hW => ⟨⟨(((r_11 * 100) + (r_13 * 10)) + (k_rem p2 10)) + 1, S_14, rfl, hw, by rw [ht]; exact hP, va_K.moved hW.alike hK, hD⟩, hS.F ht⟩) hS.2.2 dX12_behindFall_77
def wM_comfortedAt_76 (post : Int32 → MS → Prop) (K45 : Int32 → Int32 → Int32 → MS → Prop) : Nat → Int32 → Int32 → Int32 → Int32 → Int32 → MS → Prop
  | 0, _, _, _, _, _, _ => False
  | n + 1, x1, x2, x3, x4, x5, S => ((5 ≤ x5 → K45 x1 x2 (x3 + 1) S) ∧ (¬ (5 ≤ x5) → ((9 ≤ (k_rem x4 10) → K45 x1 x2 (x3 + 1) S) ∧ (¬ (9 ≤ (k_rem x4 10)) → wM_behindFall x1 x4 x5 S (fun r_3 S_4 => wM_comeTo r_3 x4 x5 S_4 (fun S_6 => wM_comfortedAt_76 post K45 n x1 x2 x3 x4 (x5 + 1) S_6))))))
def wM_comfortedAt_45 (post : Int32 → MS → Prop) : Nat → Int32 → Int32 → Int32 → MS → Prop
  | 0, _, _, _, _ => False
  | n + 1, x1, x2, x3, S => (((ms_lined S) ≤ x3 → post (-1) S) ∧ (¬ ((ms_lined S) ≤ x3) → (vp_in x3 10000 ∧ ((x2 < (((ms_line S) x3.toNatClampNeg) / 100) → ∃ k_ : Nat, wM_comfortedAt_76 post (wM_comfortedAt_45 post n) k_ x1 x2 x3 ((ms_line S) x3.toNatClampNeg) 0 S) ∧ (¬ (x2 < (((ms_line S) x3.toNatClampNeg) / 100)) → post ((ms_line S) x3.toNatClampNeg) S)))))
def wM_comfortedAt (p1 : Int32) (p2 : Int32) (S : MS) (post : Int32 → MS → Prop) : Prop := wM_own p1 1 S (fun r_1 S_2 => wM_get r_1 0 S_2 (fun r_3 S_4 => wM_own p1 1 S_4 (fun r_5 S_6 => wM_get r_5 1 S_6 (fun r_7 S_8 => wM_own p1 0 S_8 (fun r_9 S_10 => wM_beginAt (((r_3 * 100) + (r_7 * 10)) + r_9) 10000 S_10 (fun S_12 => ∃ k_ : Nat, wM_comfortedAt_45 post k_ p1 p2 0 S_12))))))
set_option maxHeartbeats 4000000 in
set_option maxRecDepth 100000 in
theorem cM_comfortedAt (l : Launch) (D : va_G) (h : Nat → Nat) (cy : Nat → ClassId) (p1 : Int32) (p2 : Int32) (S : MS) (post : Int32 → MS → Prop) (hw : wM_comfortedAt p1 p2 S post) : k_Mi l yX12_comfortedAt wsX12_comfortedAt { frames := 7, cells := 0, slots := 0, locals := 168 } D (tyM cy) (wM h cy) [.ref (h 31), .int p1, .int p2] S post := by
  intro sz
  refine Met.ofW (cc := cX12_comfortedAt) (maxL := 6) (ret := (some .int)) (by decide) rfl ?_
  intro p e s m args below meth c s₁ B hml hv
  obtain ⟨rfl, hsz, hP, hK, hD0⟩ := hv
  have hx := B.exec
  have hb := B.bytes
  have hr := B.returns
  have hts := atoms_spec (ws := wsX12_comfortedAt) B.pre
  have hown : s.vm.findClass RX12 = some m.cls := findClass_of_methodNamed B.named
  have hlocks := B.notSynchronized
  subst hsz
  have hD := hD0.self (sz := s.heap.size)
  generalize hAe : va_A (wM h cy S) s.heap.size = A at hD ⊢
  have hA : ∀ q : Nat, s.heap.size ≤ q → A q := fun q h => by rw [← hAe]; exact Or.inr h
  have hS : va_S A s.heap s.heap [] := va_S.rf
  have hin : ∀ w ∈ wsX120, w ∈ wsX12_comfortedAt := fun _ h => List.mem_cons_of_mem _ (List.mem_append_right _ h)
  have w46 := hts (.fieldLink RX12 46 "ClownsMournModel" "line" "[I") (List.mem_of_getElem? (i := 2) rfl)
  have w417 := hts (.fieldLink RX12 417 "ClownsMournModel" "lined" "I") (List.mem_of_getElem? (i := 1) rfl)
  have hl := lv_entry ([.ref (h 31), .int p1, .int p2]) (n := 6) (Nat.le_of_ble_eq_true rfl)
  rw [lg_entry_eq]
  generalize (lg_sl ([.ref (h 31), .int p1, .int p2]) ++ List.replicate (6 - (lg_sl ([.ref (h 31), .int p1, .int p2])).length) Slot.unset).toArray = ls at hl ⊢
  have hl : lv_has ls 6 [(0, .ref (h 31)), (1, .int p1), (2, .int p2)] := hl
  unfold wM_comfortedAt at hw
  clear hD0
  have L_45 : ∀ (n45 : Nat) (x1 : Int32) (x2 : Int32) (x3 : Int32) (S : MS) (H : Heap) (locs : List Loc) (ls : Array Slot), wM_comfortedAt_45 post n45 x1 x2 x3 S → va_P D vwCl (wM h cy S) H → va_D A (wM h cy S) → va_S A s.heap H locs → lv_has ls 6 [(0, .ref (h 31)), (1, .int x1), (2, .int x2), (3, .int x3)] → W p l e (headSpec wsX12_comfortedAt { frames := 7, cells := 0, slots := 0, locals := 168 }).room s m (([.ref (h 31), .int p1, .int p2] : List Value).toArray) below meth c H locs 0 0 (MQ below (va_Qi post (k_Post D (tyM cy) (wM h cy) A) A) (([.ref (h 31), .int p1, .int p2] : List Value).toArray) s 0 0 A) (F0 m 45 ls []) := by
    intro n45
    induction n45 with
    | zero => intro x1 x2 x3 S H locs ls hw; exact False.elim hw
    | succ n45 ih_45 =>
      have L_76 : ∀ (n76 : Nat) (x1 : Int32) (x2 : Int32) (x3 : Int32) (x4 : Int32) (x5 : Int32) (S : MS) (H : Heap) (locs : List Loc) (ls : Array Slot), wM_comfortedAt_76 post (wM_comfortedAt_45 post n45) n76 x1 x2 x3 x4 x5 S → va_P D vwCl (wM h cy S) H → va_D A (wM h cy S) → va_S A s.heap H locs → lv_has ls 6 [(0, .ref (h 31)), (1, .int x1), (2, .int x2), (3, .int x3), (4, .int x4), (5, .int x5)] → W p l e (headSpec wsX12_comfortedAt { frames := 7, cells := 0, slots := 0, locals := 168 }).room s m (([.ref (h 31), .int p1, .int p2] : List Value).toArray) below meth c H locs 0 0 (MQ below (va_Qi post (k_Post D (tyM cy) (wM h cy) A) A) (([.ref (h 31), .int p1, .int p2] : List Value).toArray) s 0 0 A) (F0 m 76 ls []) := by
        intro n76
        induction n76 with
        | zero => intro x1 x2 x3 x4 x5 S H locs ls hw; exact False.elim hw
        | succ n76 ih_76 =>
          intro x1 x2 x3 x4 x5 S H locs ls hw hP hD hS hl
          unfold wM_comfortedAt_76 at hw
          refine lv_iload hx hb dX12_comfortedAt_76 (lv_at hl 5 rfl) ?_
          refine lv_iconst (v := 5) hx hb dX12_comfortedAt_78 (by decide) ?_
          obtain ⟨hc_1t, hc_1f⟩ := hw
          refine lv_icmp_ge (tgt := 115) hx hb dX12_comfortedAt_79 (by decide) (fun c_1 => ?_) (fun c_1 => ?_)
          · have hw := hc_1t c_1
            clear hc_1t hc_1f
            refine lv_iinc (v := x3 + 1) (lv' := [(3, .int (x3 + 1)), (0, .ref (h 31)), (1, .int x1), (2, .int x2), (4, .int x4), (5, .int x5)]) hx hb dX12_comfortedAt_115 hl (k := 3) rfl (k_inc (by decide)) (by decide) rfl (fun ls hl => ?_)
            refine lv_goto (tgt := 45) hx hb dX12_comfortedAt_118 (by decide) ?_
            exact ih_45 x1 x2 (x3 + 1) S _ _ _ hw hP hD hS (lv_sub hl [1, 2, 3, 0] rfl)
          · have hw := hc_1f c_1
            clear hc_1t hc_1f
            refine lv_iload hx hb dX12_comfortedAt_82 (lv_at hl 4 rfl) ?_
            refine lv_bipush (v := 10) hx hb dX12_comfortedAt_84 (by decide) ?_
            refine k_irem hx hb dX12_comfortedAt_86 (by decide) ?_
            refine lv_bipush (v := 9) hx hb dX12_comfortedAt_87 (by decide) ?_
            obtain ⟨hc_2t, hc_2f⟩ := hw
            refine lv_icmp_ge (tgt := 115) hx hb dX12_comfortedAt_89 (by decide) (fun c_2 => ?_) (fun c_2 => ?_)
            · have hw := hc_2t c_2
              clear hc_2t hc_2f
              refine lv_iinc (v := x3 + 1) (lv' := [(3, .int (x3 + 1)), (0, .ref (h 31)), (1, .int x1), (2, .int x2), (4, .int x4), (5, .int x5)]) hx hb dX12_comfortedAt_115 hl (k := 3) rfl (k_inc (by decide)) (by decide) rfl (fun ls hl => ?_)
              refine lv_goto (tgt := 45) hx hb dX12_comfortedAt_118 (by decide) ?_
              exact ih_45 x1 x2 (x3 + 1) S _ _ _ hw hP hD hS (lv_sub hl [1, 2, 3, 0] rfl)
            · have hw := hc_2f c_2
              clear hc_2t hc_2f
              refine lv_aload_n hx hb dX12_comfortedAt_92 rfl (lv_at hl 0 rfl) ?_
              refine lv_aload_n hx hb dX12_comfortedAt_93 rfl (lv_at hl 0 rfl) ?_
              refine lv_iload_n hx hb dX12_comfortedAt_94 rfl (lv_at hl 1 rfl) ?_
              refine lv_iload hx hb dX12_comfortedAt_95 (lv_at hl 4 rfl) ?_
              refine lv_iload hx hb dX12_comfortedAt_97 (lv_at hl 5 rfl) ?_
              refine k_callVi (As := [.int x1, .int x4, .int x5]) (rest := [.ref (h 31)]) ⟨hx, hb, hml, hown, hts⟩ (cM_behindFall l D h cy _ _ _ _ _ hw) (cwV 3 hts gX12_comfortedAt_X12_behindFall rfl rfl rfl (by decide +kernel) ⟨Nat.le_of_ble_eq_true rfl, Nat.le_of_ble_eq_true rfl⟩) (va_recv hK hP (ci := 11) (q0 := 0) rfl rfl) hK hP hD hS hA rfl hl.1 rfl (Nat.le_of_ble_eq_true rfl) dX12_comfortedAt_99 ⟨Nat.zero_le _, Nat.zero_le _⟩ (fun r_3 S_4 H locs hw hP hD hS => ?_)
              refine lv_iload hx hb dX12_comfortedAt_102 (lv_at hl 4 rfl) ?_
              refine lv_iload hx hb dX12_comfortedAt_104 (lv_at hl 5 rfl) ?_
              refine k_callVv (As := [.int r_3, .int x4, .int x5]) (rest := []) ⟨hx, hb, hml, hown, hts⟩ (cM_comeTo l D h cy _ _ _ _ _ hw) (cwV 3 hts gX12_comfortedAt_X12_comeTo rfl rfl rfl (by decide +kernel) ⟨Nat.le_of_ble_eq_true rfl, Nat.le_of_ble_eq_true rfl⟩) (va_recv hK hP (ci := 11) (q0 := 0) rfl rfl) hK hP hD hS hA rfl hl.1 rfl (Nat.le_of_ble_eq_true rfl) dX12_comfortedAt_106 ⟨Nat.zero_le _, Nat.zero_le _⟩ (fun S_6 H locs hw hP hD hS => ?_)
              refine lv_iinc (v := x5 + 1) (lv' := [(5, .int (x5 + 1)), (0, .ref (h 31)), (1, .int x1), (2, .int x2), (3, .int x3), (4, .int x4)]) hx hb dX12_comfortedAt_109 hl (k := 5) rfl (k_inc (by decide)) (by decide) rfl (fun ls hl => ?_)
              refine lv_goto (tgt := 76) hx hb dX12_comfortedAt_112 (by decide) ?_
              exact ih_76 x1 x2 x3 x4 (x5 + 1) S_6 _ _ _ hw hP hD hS (lv_sub hl [1, 2, 3, 4, 5, 0] rfl)
      intro x1 x2 x3 S H locs ls hw hP hD hS hl
      unfold wM_comfortedAt_45 at hw
      refine lv_iload_n hx hb dX12_comfortedAt_45 rfl (lv_at hl 3 rfl) ?_
      refine lv_aload_n hx hb dX12_comfortedAt_46 rfl (lv_at hl 0 rfl) ?_
      refine va_get (D := D) (ci := 11) (v := .int (ms_lined S)) (C := RX12) (T := TX12) (N := 31) hx hb hts hin hown hK hP 0 rfl rfl 28 (by decide) w417 (fun _ h9 => h9) rfl dX12_comfortedAt_47 ?_
      obtain ⟨hc_7t, hc_7f⟩ := hw
      refine lv_icmp_ge (tgt := 121) hx hb dX12_comfortedAt_50 (by decide) (fun c_7 => ?_) (fun c_7 => ?_)
      · have hw := hc_7t c_7
        clear hc_7t hc_7f
        refine lv_iconst (v := (-1)) hx hb dX12_comfortedAt_121 (by decide) ?_
        exact W.iret (v := (-1)) hx hb hr (fun t ht hW => ⟨⟨(-1), S, rfl, hw, by rw [ht]; exact hP, va_K.moved hW.alike hK, hD⟩, hS.F ht⟩) hS.2.2 dX12_comfortedAt_122
      · have hw := hc_7f c_7
        clear hc_7t hc_7f
        refine lv_aload_n hx hb dX12_comfortedAt_53 rfl (lv_at hl 0 rfl) ?_
        refine va_get (D := D) (ci := 11) (v := .ref (h 24)) (C := RX12) (T := TX12) (N := 31) hx hb hts hin hown hK hP 0 rfl rfl 24 (by decide) w46 (fun _ h9 => h9) rfl dX12_comfortedAt_54 ?_
        refine lv_iload_n hx hb dX12_comfortedAt_57 rfl (lv_at hl 3 rfl) ?_
        obtain ⟨hi_9, hw⟩ := hw
        refine va_iald (f := (ms_line S)) hx hb hK hP 10 9 rfl rfl hi_9 dX12_comfortedAt_58 ?_
        refine lv_istore (lv' := [(4, .int ((ms_line S) x3.toNatClampNeg)), (0, .ref (h 31)), (1, .int x1), (2, .int x2), (3, .int x3)]) hx hb dX12_comfortedAt_59 hl (by decide) rfl (fun ls hl => ?_)
        refine lv_iload hx hb dX12_comfortedAt_61 (lv_at hl 0 rfl) ?_
        refine lv_bipush (v := 100) hx hb dX12_comfortedAt_63 (by decide) ?_
        refine lv_idiv hx hb dX12_comfortedAt_65 (by decide) ?_
        refine lv_iload_n hx hb dX12_comfortedAt_66 rfl (lv_at hl 3 rfl) ?_
        obtain ⟨hc_8t, hc_8f⟩ := hw
        refine lv_icmp_gt (tgt := 73) hx hb dX12_comfortedAt_67 (by decide) (fun c_8 => ?_) (fun c_8 => ?_)
        · have hw := hc_8t c_8
          clear hc_8t hc_8f
          refine lv_iconst (v := 0) hx hb dX12_comfortedAt_73 (by decide) ?_
          refine lv_istore (lv' := [(5, .int 0), (4, .int ((ms_line S) x3.toNatClampNeg)), (0, .ref (h 31)), (1, .int x1), (2, .int x2), (3, .int x3)]) hx hb dX12_comfortedAt_74 hl (by decide) rfl (fun ls hl => ?_)
          obtain ⟨n_76, hw⟩ := hw
          exact L_76 n_76 x1 x2 x3 ((ms_line S) x3.toNatClampNeg) 0 S _ _ _ hw hP hD hS (lv_sub hl [2, 3, 4, 5, 1, 0] rfl)
        · have hw := hc_8f c_8
          clear hc_8t hc_8f
          refine lv_iload hx hb dX12_comfortedAt_70 (lv_at hl 0 rfl) ?_
          exact W.iret (v := (ms_line S) x3.toNatClampNeg) hx hb hr (fun t ht hW => ⟨⟨(ms_line S) x3.toNatClampNeg, S, rfl, hw, by rw [ht]; exact hP, va_K.moved hW.alike hK, hD⟩, hS.F ht⟩) hS.2.2 dX12_comfortedAt_72
  refine lv_aload_n hx hb dX12_comfortedAt_0 rfl (lv_at hl 0 rfl) ?_
  refine lv_aload_n hx hb dX12_comfortedAt_1 rfl (lv_at hl 0 rfl) ?_
  refine lv_aload_n hx hb dX12_comfortedAt_2 rfl (lv_at hl 0 rfl) ?_
  refine lv_iload_n hx hb dX12_comfortedAt_3 rfl (lv_at hl 1 rfl) ?_
  refine lv_iconst (v := 1) hx hb dX12_comfortedAt_4 (by decide) ?_
  refine k_callVi (As := [.int p1, .int 1]) (rest := [.ref (h 31), .ref (h 31)]) ⟨hx, hb, hml, hown, hts⟩ (cM_own l D h cy _ _ _ _ hw) (cwV 2 hts gX12_comfortedAt_X12_own rfl rfl rfl (by decide +kernel) ⟨Nat.le_of_ble_eq_true rfl, Nat.le_of_ble_eq_true rfl⟩) (va_recv hK hP (ci := 11) (q0 := 0) rfl rfl) hK hP hD hS hA rfl hl.1 rfl (Nat.le_of_ble_eq_true rfl) dX12_comfortedAt_5 ⟨Nat.zero_le _, Nat.zero_le _⟩ (fun r_10 S_11 H locs hw hP hD hS => ?_)
  refine lv_iconst (v := 0) hx hb dX12_comfortedAt_8 (by decide) ?_
  refine k_callVi (As := [.int r_10, .int 0]) (rest := [.ref (h 31)]) ⟨hx, hb, hml, hown, hts⟩ (cM_get l D h cy _ _ _ _ hw) (cwV 2 hts gX12_comfortedAt_X12_get rfl rfl rfl (by decide +kernel) ⟨Nat.le_of_ble_eq_true rfl, Nat.le_of_ble_eq_true rfl⟩) (va_recv hK hP (ci := 11) (q0 := 0) rfl rfl) hK hP hD hS hA rfl hl.1 rfl (Nat.le_of_ble_eq_true rfl) dX12_comfortedAt_9 ⟨Nat.zero_le _, Nat.zero_le _⟩ (fun r_12 S_13 H locs hw hP hD hS => ?_)
  refine lv_bipush (v := 100) hx hb dX12_comfortedAt_12 (by decide) ?_
  refine lv_imul hx hb dX12_comfortedAt_14 ?_
  refine lv_aload_n hx hb dX12_comfortedAt_15 rfl (lv_at hl 0 rfl) ?_
  refine lv_aload_n hx hb dX12_comfortedAt_16 rfl (lv_at hl 0 rfl) ?_
  refine lv_iload_n hx hb dX12_comfortedAt_17 rfl (lv_at hl 1 rfl) ?_
  refine lv_iconst (v := 1) hx hb dX12_comfortedAt_18 (by decide) ?_
  refine k_callVi (As := [.int p1, .int 1]) (rest := [.ref (h 31), .int (r_12 * 100), .ref (h 31)]) ⟨hx, hb, hml, hown, hts⟩ (cM_own l D h cy _ _ _ _ hw) (cwV 2 hts gX12_comfortedAt_X12_own rfl rfl rfl (by decide +kernel) ⟨Nat.le_of_ble_eq_true rfl, Nat.le_of_ble_eq_true rfl⟩) (va_recv hK hP (ci := 11) (q0 := 0) rfl rfl) hK hP hD hS hA rfl hl.1 rfl (Nat.le_of_ble_eq_true rfl) dX12_comfortedAt_19 ⟨Nat.zero_le _, Nat.zero_le _⟩ (fun r_14 S_15 H locs hw hP hD hS => ?_)
  refine lv_iconst (v := 1) hx hb dX12_comfortedAt_22 (by decide) ?_
  refine k_callVi (As := [.int r_14, .int 1]) (rest := [.int (r_12 * 100), .ref (h 31)]) ⟨hx, hb, hml, hown, hts⟩ (cM_get l D h cy _ _ _ _ hw) (cwV 2 hts gX12_comfortedAt_X12_get rfl rfl rfl (by decide +kernel) ⟨Nat.le_of_ble_eq_true rfl, Nat.le_of_ble_eq_true rfl⟩) (va_recv hK hP (ci := 11) (q0 := 0) rfl rfl) hK hP hD hS hA rfl hl.1 rfl (Nat.le_of_ble_eq_true rfl) dX12_comfortedAt_23 ⟨Nat.zero_le _, Nat.zero_le _⟩ (fun r_16 S_17 H locs hw hP hD hS => ?_)
  refine lv_bipush (v := 10) hx hb dX12_comfortedAt_26 (by decide) ?_
  refine lv_imul hx hb dX12_comfortedAt_28 ?_
  refine lv_iadd hx hb dX12_comfortedAt_29 ?_
  refine lv_aload_n hx hb dX12_comfortedAt_30 rfl (lv_at hl 0 rfl) ?_
  refine lv_iload_n hx hb dX12_comfortedAt_31 rfl (lv_at hl 1 rfl) ?_
  refine lv_iconst (v := 0) hx hb dX12_comfortedAt_32 (by decide) ?_
  refine k_callVi (As := [.int p1, .int 0]) (rest := [.int ((r_12 * 100) + (r_16 * 10)), .ref (h 31)]) ⟨hx, hb, hml, hown, hts⟩ (cM_own l D h cy _ _ _ _ hw) (cwV 2 hts gX12_comfortedAt_X12_own rfl rfl rfl (by decide +kernel) ⟨Nat.le_of_ble_eq_true rfl, Nat.le_of_ble_eq_true rfl⟩) (va_recv hK hP (ci := 11) (q0 := 0) rfl rfl) hK hP hD hS hA rfl hl.1 rfl (Nat.le_of_ble_eq_true rfl) dX12_comfortedAt_33 ⟨Nat.zero_le _, Nat.zero_le _⟩ (fun r_18 S_19 H locs hw hP hD hS => ?_)
  refine lv_iadd hx hb dX12_comfortedAt_36 ?_
  refine lv_sipush (v := 10000) hx hb dX12_comfortedAt_37 (by decide) ?_
  refine k_callVv (As := [.int (((r_12 * 100) + (r_16 * 10)) + r_18), .int 10000]) (rest := []) ⟨hx, hb, hml, hown, hts⟩ (cM_beginAt l D h cy _ _ _ _ hw) (cwV 2 hts gX12_comfortedAt_X12_beginAt rfl rfl rfl (by decide +kernel) ⟨Nat.le_of_ble_eq_true rfl, Nat.le_of_ble_eq_true rfl⟩) (va_recv hK hP (ci := 11) (q0 := 0) rfl rfl) hK hP hD hS hA rfl hl.1 rfl (Nat.le_of_ble_eq_true rfl) dX12_comfortedAt_40 ⟨Nat.zero_le _, Nat.zero_le _⟩ (fun S_21 H locs hw hP hD hS => ?_)
  refine lv_iconst (v := 0) hx hb dX12_comfortedAt_43 (by decide) ?_
  refine lv_istore_n (lv' := [(3, .int 0), (0, .ref (h 31)), (1, .int p1), (2, .int p2)]) hx hb dX12_comfortedAt_44 rfl hl (by decide) rfl (fun ls hl => ?_)
  obtain ⟨n_45, hw⟩ := hw
  exact L_45 n_45 p1 p2 0 S_21 _ _ _ hw hP hD hS (lv_sub hl [1, 2, 3, 0] rfl)
def wM_comfort (p1 : Int32) (p2 : Int32) (p3 : Int32) (S : MS) (post : Int32 → MS → Prop) : Prop := wM_isAtHouse p1 S (fun r_1 S_2 => ((r_1 = 0 → post (-2) S_2) ∧ (¬ (r_1 = 0) → wM_isIn p2 0 99 S_2 (fun r_4 S_5 => ((r_4 = 0 → post (-2) S_5) ∧ (¬ (r_4 = 0) → wM_setAside S_5 (fun S_8 => wM_comfortedAt p1 p2 S_8 (fun r_9 S_10 => wM_putBack S_10 (fun S_12 => wM_wayTo r_9 p3 S_12 (fun r_13 S_14 => post r_13 S_14))))))))))
set_option maxHeartbeats 4000000 in
set_option maxRecDepth 100000 in
theorem cM_comfort (l : Launch) (D : va_G) (h : Nat → Nat) (cy : Nat → ClassId) (p1 : Int32) (p2 : Int32) (p3 : Int32) (S : MS) (post : Int32 → MS → Prop) (hw : wM_comfort p1 p2 p3 S post) : k_Mi l yX12_comfort wsX12_comfort { frames := 8, cells := 0, slots := 0, locals := 193 } D (tyM cy) (wM h cy) [.ref (h 31), .int p1, .int p2, .int p3] S post := by
  intro sz
  refine Met.ofW (cc := cX12_comfort) (maxL := 5) (ret := (some .int)) (by decide) rfl ?_
  intro p e s m args below meth c s₁ B hml hv
  obtain ⟨rfl, hsz, hP, hK, hD0⟩ := hv
  have hx := B.exec
  have hb := B.bytes
  have hr := B.returns
  have hts := atoms_spec (ws := wsX12_comfort) B.pre
  have hown : s.vm.findClass RX12 = some m.cls := findClass_of_methodNamed B.named
  have hlocks := B.notSynchronized
  subst hsz
  have hD := hD0.self (sz := s.heap.size)
  generalize hAe : va_A (wM h cy S) s.heap.size = A at hD ⊢
  have hA : ∀ q : Nat, s.heap.size ≤ q → A q := fun q h => by rw [← hAe]; exact Or.inr h
  have hS : va_S A s.heap s.heap [] := va_S.rf
  have hl := lv_entry ([.ref (h 31), .int p1, .int p2, .int p3]) (n := 5) (Nat.le_of_ble_eq_true rfl)
  rw [lg_entry_eq]
  generalize (lg_sl ([.ref (h 31), .int p1, .int p2, .int p3]) ++ List.replicate (5 - (lg_sl ([.ref (h 31), .int p1, .int p2, .int p3])).length) Slot.unset).toArray = ls at hl ⊢
  have hl : lv_has ls 5 [(0, .ref (h 31)), (1, .int p1), (2, .int p2), (3, .int p3)] := hl
  unfold wM_comfort at hw
  clear hD0
  refine lv_aload_n hx hb dX12_comfort_0 rfl (lv_at hl 0 rfl) ?_
  refine lv_iload_n hx hb dX12_comfort_1 rfl (lv_at hl 1 rfl) ?_
  refine k_callVi (As := [.int p1]) (rest := []) ⟨hx, hb, hml, hown, hts⟩ (cM_isAtHouse l D h cy _ _ _ hw) (cwV 1 hts gX12_comfort_X12_isAtHouse rfl rfl rfl (by decide +kernel) ⟨Nat.le_of_ble_eq_true rfl, Nat.le_of_ble_eq_true rfl⟩) (va_recv hK hP (ci := 11) (q0 := 0) rfl rfl) hK hP hD hS hA rfl hl.1 rfl (Nat.le_of_ble_eq_true rfl) dX12_comfort_2 ⟨Nat.zero_le _, Nat.zero_le _⟩ (fun r_1 S_2 H locs hw hP hD hS => ?_)
  obtain ⟨hc_3t, hc_3f⟩ := hw
  refine lv_if_eq (tgt := 18) hx hb dX12_comfort_5 (by decide) (fun c_3 => ?_) (fun c_3 => ?_)
  · have hw := hc_3t c_3
    clear hc_3t hc_3f
    refine lv_bipush (v := (-2)) hx hb dX12_comfort_18 (by decide) ?_
    exact W.iret (v := (-2)) hx hb hr (fun t ht hW => ⟨⟨(-2), S_2, rfl, hw, by rw [ht]; exact hP, va_K.moved hW.alike hK, hD⟩, hS.F ht⟩) hS.2.2 dX12_comfort_20
  · have hw := hc_3f c_3
    clear hc_3t hc_3f
    refine lv_iload_n hx hb dX12_comfort_8 rfl (lv_at hl 2 rfl) ?_
    refine lv_iconst (v := 0) hx hb dX12_comfort_9 (by decide) ?_
    refine lv_bipush (v := 99) hx hb dX12_comfort_10 (by decide) ?_
    refine k_callSi (As := [.int p2, .int 0, .int 99]) (rest := []) ⟨hx, hb, hml, hown, hts⟩ (cM_isIn l D h cy _ _ _ _ _ hw) (va_cwS 3 hts gX12_comfort_X12_isIn rfl rfl rfl (by decide +kernel) ⟨Nat.le_of_ble_eq_true rfl, Nat.le_of_ble_eq_true rfl⟩) hK hP hD hS hA rfl hl.1 rfl (Nat.le_of_ble_eq_true rfl) dX12_comfort_12 ⟨Nat.zero_le _, Nat.zero_le _⟩ (fun r_4 S_5 H locs hw hP hD hS => ?_)
    obtain ⟨hc_6t, hc_6f⟩ := hw
    refine lv_if_ne (tgt := 21) hx hb dX12_comfort_15 (by decide) (fun c_6 => ?_) (fun c_6 => ?_)
    · have hw := hc_6f c_6
      clear hc_6t hc_6f
      refine lv_aload_n hx hb dX12_comfort_21 rfl (lv_at hl 0 rfl) ?_
      refine k_callVv (As := []) (rest := []) ⟨hx, hb, hml, hown, hts⟩ (cM_setAside l D h cy _ _ hw) (cwV 0 hts gX12_comfort_X12_setAside rfl rfl rfl (by decide +kernel) ⟨Nat.le_of_ble_eq_true rfl, Nat.le_of_ble_eq_true rfl⟩) (va_recv hK hP (ci := 11) (q0 := 0) rfl rfl) hK hP hD hS hA rfl hl.1 rfl (Nat.le_of_ble_eq_true rfl) dX12_comfort_22 ⟨Nat.zero_le _, Nat.zero_le _⟩ (fun S_8 H locs hw hP hD hS => ?_)
      refine lv_aload_n hx hb dX12_comfort_25 rfl (lv_at hl 0 rfl) ?_
      refine lv_iload_n hx hb dX12_comfort_26 rfl (lv_at hl 1 rfl) ?_
      refine lv_iload_n hx hb dX12_comfort_27 rfl (lv_at hl 2 rfl) ?_
      refine k_callVi (As := [.int p1, .int p2]) (rest := []) ⟨hx, hb, hml, hown, hts⟩ (cM_comfortedAt l D h cy _ _ _ _ hw) (cwV 2 hts gX12_comfort_X12_comfortedAt rfl rfl rfl (by decide +kernel) ⟨Nat.le_of_ble_eq_true rfl, Nat.le_of_ble_eq_true rfl⟩) (va_recv hK hP (ci := 11) (q0 := 0) rfl rfl) hK hP hD hS hA rfl hl.1 rfl (Nat.le_of_ble_eq_true rfl) dX12_comfort_28 ⟨Nat.zero_le _, Nat.zero_le _⟩ (fun r_9 S_10 H locs hw hP hD hS => ?_)
      refine lv_istore (lv' := [(4, .int r_9), (0, .ref (h 31)), (1, .int p1), (2, .int p2), (3, .int p3)]) hx hb dX12_comfort_31 hl (by decide) rfl (fun ls hl => ?_)
      refine lv_aload_n hx hb dX12_comfort_33 rfl (lv_at hl 1 rfl) ?_
      refine k_callVv (As := []) (rest := []) ⟨hx, hb, hml, hown, hts⟩ (cM_putBack l D h cy _ _ hw) (cwV 0 hts gX12_comfort_X12_putBack rfl rfl rfl (by decide +kernel) ⟨Nat.le_of_ble_eq_true rfl, Nat.le_of_ble_eq_true rfl⟩) (va_recv hK hP (ci := 11) (q0 := 0) rfl rfl) hK hP hD hS hA rfl hl.1 rfl (Nat.le_of_ble_eq_true rfl) dX12_comfort_34 ⟨Nat.zero_le _, Nat.zero_le _⟩ (fun S_12 H locs hw hP hD hS => ?_)
      refine lv_aload_n hx hb dX12_comfort_37 rfl (lv_at hl 1 rfl) ?_
      refine lv_iload hx hb dX12_comfort_38 (lv_at hl 0 rfl) ?_
      refine lv_iload_n hx hb dX12_comfort_40 rfl (lv_at hl 4 rfl) ?_
      refine k_callVi (As := [.int r_9, .int p3]) (rest := []) ⟨hx, hb, hml, hown, hts⟩ (cM_wayTo l D h cy _ _ _ _ hw) (cwV 2 hts gX12_comfort_X12_wayTo rfl rfl rfl (by decide +kernel) ⟨Nat.le_of_ble_eq_true rfl, Nat.le_of_ble_eq_true rfl⟩) (va_recv hK hP (ci := 11) (q0 := 0) rfl rfl) hK hP hD hS hA rfl hl.1 rfl (Nat.le_of_ble_eq_true rfl) dX12_comfort_41 ⟨Nat.zero_le _, Nat.zero_le _⟩ (fun r_13 S_14 H locs hw hP hD hS => ?_)
      exact W.iret (v := r_13) hx hb hr (fun t ht hW => ⟨⟨r_13, S_14, rfl, hw, by rw [ht]; exact hP, va_K.moved hW.alike hK, hD⟩, hS.F ht⟩) hS.2.2 dX12_comfort_44
    · have hw := hc_6t c_6
      clear hc_6t hc_6f
      refine lv_bipush (v := (-2)) hx hb dX12_comfort_18 (by decide) ?_
      exact W.iret (v := (-2)) hx hb hr (fun t ht hW => ⟨⟨(-2), S_5, rfl, hw, by rw [ht]; exact hP, va_K.moved hW.alike hK, hD⟩, hS.F ht⟩) hS.2.2 dX12_comfort_20
def wM_ring_15 (post : Int32 → MS → Prop) : Nat → Int32 → Int32 → Int32 → MS → Prop
  | 0, _, _, _, _ => False
  | n + 1, x1, x2, x3, S => ((10 ≤ x3 → post x2 S) ∧ (¬ (10 ≤ x3) → wM_moodsBy x1 x2 S (fun r_2 S_3 => wM_ring_15 post n x1 r_2 (x3 + 1) S_3)))
def wM_ring (p1 : Int32) (S : MS) (post : Int32 → MS → Prop) : Prop := wM_isKind p1 S (fun r_1 S_2 => ((r_1 = 0 → post (-1) S_2) ∧ (¬ (r_1 = 0) → ∃ k_ : Nat, wM_ring_15 post k_ p1 1023 0 S_2)))
set_option maxHeartbeats 4000000 in
set_option maxRecDepth 100000 in
theorem cM_ring (l : Launch) (D : va_G) (h : Nat → Nat) (cy : Nat → ClassId) (p1 : Int32) (S : MS) (post : Int32 → MS → Prop) (hw : wM_ring p1 S post) : k_Mi l yX12_ring wsX12_ring { frames := 2, cells := 0, slots := 0, locals := 46 } D (tyM cy) (wM h cy) [.ref (h 31), .int p1] S post := by
  intro sz
  refine Met.ofW (cc := cX12_ring) (maxL := 4) (ret := (some .int)) (by decide) rfl ?_
  intro p e s m args below meth c s₁ B hml hv
  obtain ⟨rfl, hsz, hP, hK, hD0⟩ := hv
  have hx := B.exec
  have hb := B.bytes
  have hr := B.returns
  have hts := atoms_spec (ws := wsX12_ring) B.pre
  have hown : s.vm.findClass RX12 = some m.cls := findClass_of_methodNamed B.named
  have hlocks := B.notSynchronized
  subst hsz
  have hD := hD0.self (sz := s.heap.size)
  generalize hAe : va_A (wM h cy S) s.heap.size = A at hD ⊢
  have hA : ∀ q : Nat, s.heap.size ≤ q → A q := fun q h => by rw [← hAe]; exact Or.inr h
  have hS : va_S A s.heap s.heap [] := va_S.rf
  have hl := lv_entry ([.ref (h 31), .int p1]) (n := 4) (Nat.le_of_ble_eq_true rfl)
  rw [lg_entry_eq]
  generalize (lg_sl ([.ref (h 31), .int p1]) ++ List.replicate (4 - (lg_sl ([.ref (h 31), .int p1])).length) Slot.unset).toArray = ls at hl ⊢
  have hl : lv_has ls 4 [(0, .ref (h 31)), (1, .int p1)] := hl
  unfold wM_ring at hw
  clear hD0
  have L_15 : ∀ (n15 : Nat) (x1 : Int32) (x2 : Int32) (x3 : Int32) (S : MS) (H : Heap) (locs : List Loc) (ls : Array Slot), wM_ring_15 post n15 x1 x2 x3 S → va_P D vwCl (wM h cy S) H → va_D A (wM h cy S) → va_S A s.heap H locs → lv_has ls 4 [(0, .ref (h 31)), (1, .int x1), (2, .int x2), (3, .int x3)] → W p l e (headSpec wsX12_ring { frames := 2, cells := 0, slots := 0, locals := 46 }).room s m (([.ref (h 31), .int p1] : List Value).toArray) below meth c H locs 0 0 (MQ below (va_Qi post (k_Post D (tyM cy) (wM h cy) A) A) (([.ref (h 31), .int p1] : List Value).toArray) s 0 0 A) (F0 m 15 ls []) := by
    intro n15
    induction n15 with
    | zero => intro x1 x2 x3 S H locs ls hw; exact False.elim hw
    | succ n15 ih_15 =>
      intro x1 x2 x3 S H locs ls hw hP hD hS hl
      unfold wM_ring_15 at hw
      refine lv_iload_n hx hb dX12_ring_15 rfl (lv_at hl 3 rfl) ?_
      refine lv_bipush (v := 10) hx hb dX12_ring_16 (by decide) ?_
      obtain ⟨hc_1t, hc_1f⟩ := hw
      refine lv_icmp_ge (tgt := 34) hx hb dX12_ring_18 (by decide) (fun c_1 => ?_) (fun c_1 => ?_)
      · have hw := hc_1t c_1
        clear hc_1t hc_1f
        refine lv_iload_n hx hb dX12_ring_34 rfl (lv_at hl 2 rfl) ?_
        exact W.iret (v := x2) hx hb hr (fun t ht hW => ⟨⟨x2, S, rfl, hw, by rw [ht]; exact hP, va_K.moved hW.alike hK, hD⟩, hS.F ht⟩) hS.2.2 dX12_ring_35
      · have hw := hc_1f c_1
        clear hc_1t hc_1f
        refine lv_aload_n hx hb dX12_ring_21 rfl (lv_at hl 0 rfl) ?_
        refine lv_iload_n hx hb dX12_ring_22 rfl (lv_at hl 1 rfl) ?_
        refine lv_iload_n hx hb dX12_ring_23 rfl (lv_at hl 2 rfl) ?_
        refine k_callVi (As := [.int x1, .int x2]) (rest := []) ⟨hx, hb, hml, hown, hts⟩ (cM_moodsBy l D h cy _ _ _ _ hw) (cwV 2 hts gX12_ring_X12_moodsBy rfl rfl rfl (by decide +kernel) ⟨Nat.le_of_ble_eq_true rfl, Nat.le_of_ble_eq_true rfl⟩) (va_recv hK hP (ci := 11) (q0 := 0) rfl rfl) hK hP hD hS hA rfl hl.1 rfl (Nat.le_of_ble_eq_true rfl) dX12_ring_24 ⟨Nat.zero_le _, Nat.zero_le _⟩ (fun r_2 S_3 H locs hw hP hD hS => ?_)
        refine lv_istore_n (lv' := [(2, .int r_2), (0, .ref (h 31)), (1, .int x1), (3, .int x3)]) hx hb dX12_ring_27 rfl hl (by decide) rfl (fun ls hl => ?_)
        refine lv_iinc (v := x3 + 1) (lv' := [(3, .int (x3 + 1)), (2, .int r_2), (0, .ref (h 31)), (1, .int x1)]) hx hb dX12_ring_28 hl (k := 3) rfl (k_inc (by decide)) (by decide) rfl (fun ls hl => ?_)
        refine lv_goto (tgt := 15) hx hb dX12_ring_31 (by decide) ?_
        exact ih_15 x1 r_2 (x3 + 1) S_3 _ _ _ hw hP hD hS (lv_sub hl [2, 3, 1, 0] rfl)
  refine lv_iload_n hx hb dX12_ring_0 rfl (lv_at hl 1 rfl) ?_
  refine k_callSi (As := [.int p1]) (rest := []) ⟨hx, hb, hml, hown, hts⟩ (cM_isKind l D h cy _ _ _ hw) (va_cwS 1 hts gX12_ring_X12_isKind rfl rfl rfl (by decide +kernel) ⟨Nat.le_of_ble_eq_true rfl, Nat.le_of_ble_eq_true rfl⟩) hK hP hD hS hA rfl hl.1 rfl (Nat.le_of_ble_eq_true rfl) dX12_ring_1 ⟨Nat.zero_le _, Nat.zero_le _⟩ (fun r_4 S_5 H locs hw hP hD hS => ?_)
  obtain ⟨hc_6t, hc_6f⟩ := hw
  refine lv_if_ne (tgt := 9) hx hb dX12_ring_4 (by decide) (fun c_6 => ?_) (fun c_6 => ?_)
  · have hw := hc_6f c_6
    clear hc_6t hc_6f
    refine lv_sipush (v := 1023) hx hb dX12_ring_9 (by decide) ?_
    refine lv_istore_n (lv' := [(2, .int 1023), (0, .ref (h 31)), (1, .int p1)]) hx hb dX12_ring_12 rfl hl (by decide) rfl (fun ls hl => ?_)
    refine lv_iconst (v := 0) hx hb dX12_ring_13 (by decide) ?_
    refine lv_istore_n (lv' := [(3, .int 0), (2, .int 1023), (0, .ref (h 31)), (1, .int p1)]) hx hb dX12_ring_14 rfl hl (by decide) rfl (fun ls hl => ?_)
    obtain ⟨n_15, hw⟩ := hw
    exact L_15 n_15 p1 1023 0 S_5 _ _ _ hw hP hD hS (lv_sub hl [2, 3, 1, 0] rfl)
  · have hw := hc_6t c_6
    clear hc_6t hc_6f
    refine lv_iconst (v := (-1)) hx hb dX12_ring_7 (by decide) ?_
    exact W.iret (v := (-1)) hx hb hr (fun t ht hW => ⟨⟨(-1), S_5, rfl, hw, by rw [ht]; exact hP, va_K.moved hW.alike hK, hD⟩, hS.F ht⟩) hS.2.2 dX12_ring_8
def wM_cost (p1 : Int32) (p2 : Int32) (p3 : Int32) (S : MS) (post : Int32 → MS → Prop) : Prop := wM_isIn p1 0 4 S (fun r_1 S_2 => ((r_1 = 0 → post 0 S_2) ∧ (¬ (r_1 = 0) → wM_isIn p2 0 5 S_2 (fun r_4 S_5 => ((r_4 = 0 → post 0 S_5) ∧ (¬ (r_4 = 0) → wM_isIn p3 0 99 S_5 (fun r_7 S_8 => ((r_7 = 0 → post 0 S_8) ∧ (¬ (r_7 = 0) → (vp_in ((121 + (6 * p1)) + p2) 2454 ∧ ∀ S_10 : MS, S_10 = (ms_set_a S_8 (upd (ms_a S_8) (((121 + (6 * p1)) + p2).toNatClampNeg) p3)) → post 1 S_10))))))))))
set_option maxHeartbeats 4000000 in
set_option maxRecDepth 100000 in
theorem cM_cost (l : Launch) (D : va_G) (h : Nat → Nat) (cy : Nat → ClassId) (p1 : Int32) (p2 : Int32) (p3 : Int32) (S : MS) (post : Int32 → MS → Prop) (hw : wM_cost p1 p2 p3 S post) : k_Mi l yX12_cost wsX12_cost { frames := 1, cells := 0, slots := 0, locals := 22 } D (tyM cy) (wM h cy) [.ref (h 31), .int p1, .int p2, .int p3] S post := by
  intro sz
  refine Met.ofW (cc := cX12_cost) (maxL := 4) (ret := (some .boolean)) (by decide) rfl ?_
  intro p e s m args below meth c s₁ B hml hv
  obtain ⟨rfl, hsz, hP, hK, hD0⟩ := hv
  have hx := B.exec
  have hb := B.bytes
  have hr := B.returns
  have hts := atoms_spec (ws := wsX12_cost) B.pre
  have hown : s.vm.findClass RX12 = some m.cls := findClass_of_methodNamed B.named
  have hlocks := B.notSynchronized
  subst hsz
  have hD := hD0.self (sz := s.heap.size)
  generalize hAe : va_A (wM h cy S) s.heap.size = A at hD ⊢
  have hA : ∀ q : Nat, s.heap.size ≤ q → A q := fun q h => by rw [← hAe]; exact Or.inr h
  have hS : va_S A s.heap s.heap [] := va_S.rf
  have hin : ∀ w ∈ wsX120, w ∈ wsX12_cost := fun _ h => List.mem_cons_of_mem _ (List.mem_append_right _ h)
  have w7 := hts (.fieldLink RX12 7 "ClownsMournModel" "a" "[I") (List.mem_of_getElem? (i := 1) rfl)
  have hl := lv_entry ([.ref (h 31), .int p1, .int p2, .int p3]) (n := 4) (Nat.le_of_ble_eq_true rfl)
  rw [lg_entry_eq]
  generalize (lg_sl ([.ref (h 31), .int p1, .int p2, .int p3]) ++ List.replicate (4 - (lg_sl ([.ref (h 31), .int p1, .int p2, .int p3])).length) Slot.unset).toArray = ls at hl ⊢
  have hl : lv_has ls 4 [(0, .ref (h 31)), (1, .int p1), (2, .int p2), (3, .int p3)] := hl
  unfold wM_cost at hw
  clear hD0
  refine lv_iload_n hx hb dX12_cost_0 rfl (lv_at hl 1 rfl) ?_
  refine lv_iconst (v := 0) hx hb dX12_cost_1 (by decide) ?_
  refine lv_iconst (v := 4) hx hb dX12_cost_2 (by decide) ?_
  refine k_callSi (As := [.int p1, .int 0, .int 4]) (rest := []) ⟨hx, hb, hml, hown, hts⟩ (cM_isIn l D h cy _ _ _ _ _ hw) (va_cwS 3 hts gX12_cost_X12_isIn rfl rfl rfl (by decide +kernel) ⟨Nat.le_of_ble_eq_true rfl, Nat.le_of_ble_eq_true rfl⟩) hK hP hD hS hA rfl hl.1 rfl (Nat.le_of_ble_eq_true rfl) dX12_cost_3 ⟨Nat.zero_le _, Nat.zero_le _⟩ (fun r_1 S_2 H locs hw hP hD hS => ?_)
  obtain ⟨hc_3t, hc_3f⟩ := hw
  refine lv_if_eq (tgt := 28) hx hb dX12_cost_6 (by decide) (fun c_3 => ?_) (fun c_3 => ?_)
  · have hw := hc_3t c_3
    clear hc_3t hc_3f
    refine lv_iconst (v := 0) hx hb dX12_cost_28 (by decide) ?_
    exact W.zret (v := 0) hx hb hr (by decide +kernel) (fun t ht hW => ⟨⟨0, S_2, rfl, hw, by rw [ht]; exact hP, va_K.moved hW.alike hK, hD⟩, hS.F ht⟩) hS.2.2 dX12_cost_29
  · have hw := hc_3f c_3
    clear hc_3t hc_3f
    refine lv_iload_n hx hb dX12_cost_9 rfl (lv_at hl 2 rfl) ?_
    refine lv_iconst (v := 0) hx hb dX12_cost_10 (by decide) ?_
    refine lv_iconst (v := 5) hx hb dX12_cost_11 (by decide) ?_
    refine k_callSi (As := [.int p2, .int 0, .int 5]) (rest := []) ⟨hx, hb, hml, hown, hts⟩ (cM_isIn l D h cy _ _ _ _ _ hw) (va_cwS 3 hts gX12_cost_X12_isIn rfl rfl rfl (by decide +kernel) ⟨Nat.le_of_ble_eq_true rfl, Nat.le_of_ble_eq_true rfl⟩) hK hP hD hS hA rfl hl.1 rfl (Nat.le_of_ble_eq_true rfl) dX12_cost_12 ⟨Nat.zero_le _, Nat.zero_le _⟩ (fun r_4 S_5 H locs hw hP hD hS => ?_)
    obtain ⟨hc_6t, hc_6f⟩ := hw
    refine lv_if_eq (tgt := 28) hx hb dX12_cost_15 (by decide) (fun c_6 => ?_) (fun c_6 => ?_)
    · have hw := hc_6t c_6
      clear hc_6t hc_6f
      refine lv_iconst (v := 0) hx hb dX12_cost_28 (by decide) ?_
      exact W.zret (v := 0) hx hb hr (by decide +kernel) (fun t ht hW => ⟨⟨0, S_5, rfl, hw, by rw [ht]; exact hP, va_K.moved hW.alike hK, hD⟩, hS.F ht⟩) hS.2.2 dX12_cost_29
    · have hw := hc_6f c_6
      clear hc_6t hc_6f
      refine lv_iload_n hx hb dX12_cost_18 rfl (lv_at hl 3 rfl) ?_
      refine lv_iconst (v := 0) hx hb dX12_cost_19 (by decide) ?_
      refine lv_bipush (v := 99) hx hb dX12_cost_20 (by decide) ?_
      refine k_callSi (As := [.int p3, .int 0, .int 99]) (rest := []) ⟨hx, hb, hml, hown, hts⟩ (cM_isIn l D h cy _ _ _ _ _ hw) (va_cwS 3 hts gX12_cost_X12_isIn rfl rfl rfl (by decide +kernel) ⟨Nat.le_of_ble_eq_true rfl, Nat.le_of_ble_eq_true rfl⟩) hK hP hD hS hA rfl hl.1 rfl (Nat.le_of_ble_eq_true rfl) dX12_cost_22 ⟨Nat.zero_le _, Nat.zero_le _⟩ (fun r_7 S_8 H locs hw hP hD hS => ?_)
      obtain ⟨hc_9t, hc_9f⟩ := hw
      refine lv_if_ne (tgt := 30) hx hb dX12_cost_25 (by decide) (fun c_9 => ?_) (fun c_9 => ?_)
      · have hw := hc_9f c_9
        clear hc_9t hc_9f
        refine lv_aload_n hx hb dX12_cost_30 rfl (lv_at hl 0 rfl) ?_
        refine va_get (D := D) (ci := 11) (v := .ref (h 0)) (C := RX12) (T := TX12) (N := 31) hx hb hts hin hown hK hP 0 rfl rfl 0 (by decide) w7 (fun _ h9 => h9) rfl dX12_cost_31 ?_
        refine lv_bipush (v := 121) hx hb dX12_cost_34 (by decide) ?_
        refine lv_bipush (v := 6) hx hb dX12_cost_36 (by decide) ?_
        refine lv_iload_n hx hb dX12_cost_38 rfl (lv_at hl 1 rfl) ?_
        refine lv_imul hx hb dX12_cost_39 ?_
        refine lv_iadd hx hb dX12_cost_40 ?_
        refine lv_iload_n hx hb dX12_cost_41 rfl (lv_at hl 2 rfl) ?_
        refine lv_iadd hx hb dX12_cost_42 ?_
        refine lv_iload_n hx hb dX12_cost_43 rfl (lv_at hl 3 rfl) ?_
        obtain ⟨hi_11, hw⟩ := hw
        refine va_iast (f := (ms_a S_8)) hx hb hK hP hD hS 1 0 rfl rfl hi_11 dX12_cost_44 (fun H locs hP hD hS => ?_)
        obtain ⟨S_10, eS_10⟩ : ∃ z : MS, z = (ms_set_a S_8 (upd (ms_a S_8) (((121 + (6 * p1)) + p2).toNatClampNeg) p3)) := ⟨_, rfl⟩
        have hw := hw S_10 eS_10
        have hP : va_P D vwCl (wM h cy S_10) H := by rw [eS_10, ← wMs_a]; exact hP
        have hD : va_D A (wM h cy S_10) := by rw [eS_10, ← wMs_a]; exact hD
        refine lv_iconst (v := 1) hx hb dX12_cost_45 (by decide) ?_
        exact W.zret (v := 1) hx hb hr (by decide +kernel) (fun t ht hW => ⟨⟨1, S_10, rfl, hw, by rw [ht]; exact hP, va_K.moved hW.alike hK, hD⟩, hS.F ht⟩) hS.2.2 dX12_cost_46
      · have hw := hc_9t c_9
        clear hc_9t hc_9f
        refine lv_iconst (v := 0) hx hb dX12_cost_28 (by decide) ?_
        exact W.zret (v := 0) hx hb hr (by decide +kernel) (fun t ht hW => ⟨⟨0, S_8, rfl, hw, by rw [ht]; exact hP, va_K.moved hW.alike hK, hD⟩, hS.F ht⟩) hS.2.2 dX12_cost_29
def wM_goingTo (p1 : Int32) (p2 : Int32) (p3 : Int32) (S : MS) (post : Int32 → MS → Prop) : Prop := (vp_in ((121 + (6 * p1)) + p2) 2454 ∧ (vp_in ((64 * (p1 + 1)) + (p3 ||| (k_shl 1 p2))) 384 ∧ post ((((ms_a S) ((121 + (6 * p1)) + p2).toNatClampNeg) - 10000) + ((ms_cheap S) ((64 * (p1 + 1)) + (p3 ||| (k_shl 1 p2))).toNatClampNeg)) S))
set_option maxHeartbeats 4000000 in
set_option maxRecDepth 100000 in
theorem cM_goingTo (l : Launch) (D : va_G) (h : Nat → Nat) (cy : Nat → ClassId) (p1 : Int32) (p2 : Int32) (p3 : Int32) (S : MS) (post : Int32 → MS → Prop) (hw : wM_goingTo p1 p2 p3 S post) : k_Mi l yX12_goingTo wsX12_goingTo { frames := 0, cells := 0, slots := 0, locals := 0 } D (tyM cy) (wM h cy) [.ref (h 31), .int p1, .int p2, .int p3] S post := by
  intro sz
  refine Met.ofW (cc := cX12_goingTo) (maxL := 4) (ret := (some .int)) (by decide) rfl ?_
  intro p e s m args below meth c s₁ B hml hv
  obtain ⟨rfl, hsz, hP, hK, hD0⟩ := hv
  have hx := B.exec
  have hb := B.bytes
  have hr := B.returns
  have hts := atoms_spec (ws := wsX12_goingTo) B.pre
  have hown : s.vm.findClass RX12 = some m.cls := findClass_of_methodNamed B.named
  have hlocks := B.notSynchronized
  subst hsz
  have hD := hD0.self (sz := s.heap.size)
  generalize hAe : va_A (wM h cy S) s.heap.size = A at hD ⊢
  have hA : ∀ q : Nat, s.heap.size ≤ q → A q := fun q h => by rw [← hAe]; exact Or.inr h
  have hS : va_S A s.heap s.heap [] := va_S.rf
  have hin : ∀ w ∈ wsX120, w ∈ wsX12_goingTo := fun _ h => List.mem_cons_of_mem _ (List.mem_append_right _ h)
  have w7 := hts (.fieldLink RX12 7 "ClownsMournModel" "a" "[I") (List.mem_of_getElem? (i := 1) rfl)
  have w58 := hts (.fieldLink RX12 58 "ClownsMournModel" "cheap" "[I") (List.mem_of_getElem? (i := 2) rfl)
  have hl := lv_entry ([.ref (h 31), .int p1, .int p2, .int p3]) (n := 4) (Nat.le_of_ble_eq_true rfl)
  rw [lg_entry_eq]
  generalize (lg_sl ([.ref (h 31), .int p1, .int p2, .int p3]) ++ List.replicate (4 - (lg_sl ([.ref (h 31), .int p1, .int p2, .int p3])).length) Slot.unset).toArray = ls at hl ⊢
  have hl : lv_has ls 4 [(0, .ref (h 31)), (1, .int p1), (2, .int p2), (3, .int p3)] := hl
  unfold wM_goingTo at hw
  clear hD0
  refine lv_aload_n hx hb dX12_goingTo_0 rfl (lv_at hl 0 rfl) ?_
  refine va_get (D := D) (ci := 11) (v := .ref (h 0)) (C := RX12) (T := TX12) (N := 31) hx hb hts hin hown hK hP 0 rfl rfl 0 (by decide) w7 (fun _ h9 => h9) rfl dX12_goingTo_1 ?_
  refine lv_bipush (v := 121) hx hb dX12_goingTo_4 (by decide) ?_
  refine lv_bipush (v := 6) hx hb dX12_goingTo_6 (by decide) ?_
  refine lv_iload_n hx hb dX12_goingTo_8 rfl (lv_at hl 1 rfl) ?_
  refine lv_imul hx hb dX12_goingTo_9 ?_
  refine lv_iadd hx hb dX12_goingTo_10 ?_
  refine lv_iload_n hx hb dX12_goingTo_11 rfl (lv_at hl 2 rfl) ?_
  refine lv_iadd hx hb dX12_goingTo_12 ?_
  obtain ⟨hi_2, hw⟩ := hw
  refine va_iald (f := (ms_a S)) hx hb hK hP 1 0 rfl rfl hi_2 dX12_goingTo_13 ?_
  refine lv_sipush (v := 10000) hx hb dX12_goingTo_14 (by decide) ?_
  refine lv_isub hx hb dX12_goingTo_17 ?_
  refine lv_aload_n hx hb dX12_goingTo_18 rfl (lv_at hl 0 rfl) ?_
  refine va_get (D := D) (ci := 11) (v := .ref (h 29)) (C := RX12) (T := TX12) (N := 31) hx hb hts hin hown hK hP 0 rfl rfl 29 (by decide) w58 (fun _ h9 => h9) rfl dX12_goingTo_19 ?_
  refine lv_bipush (v := 64) hx hb dX12_goingTo_22 (by decide) ?_
  refine lv_iload_n hx hb dX12_goingTo_24 rfl (lv_at hl 1 rfl) ?_
  refine lv_iconst (v := 1) hx hb dX12_goingTo_25 (by decide) ?_
  refine lv_iadd hx hb dX12_goingTo_26 ?_
  refine lv_imul hx hb dX12_goingTo_27 ?_
  refine lv_iload_n hx hb dX12_goingTo_28 rfl (lv_at hl 3 rfl) ?_
  refine lv_iconst (v := 1) hx hb dX12_goingTo_29 (by decide) ?_
  refine lv_iload_n hx hb dX12_goingTo_30 rfl (lv_at hl 2 rfl) ?_
  refine k_ishl hx hb dX12_goingTo_31 ?_
  refine lv_ior hx hb dX12_goingTo_32 ?_
  refine lv_iadd hx hb dX12_goingTo_33 ?_
  obtain ⟨hi_1, hw⟩ := hw
  refine va_iald (f := (ms_cheap S)) hx hb hK hP 14 13 rfl rfl hi_1 dX12_goingTo_34 ?_
  refine lv_iadd hx hb dX12_goingTo_35 ?_
  exact W.iret (v := (((ms_a S) ((121 + (6 * p1)) + p2).toNatClampNeg) - 10000) + ((ms_cheap S) ((64 * (p1 + 1)) + (p3 ||| (k_shl 1 p2))).toNatClampNeg)) hx hb hr (fun t ht hW => ⟨⟨(((ms_a S) ((121 + (6 * p1)) + p2).toNatClampNeg) - 10000) + ((ms_cheap S) ((64 * (p1 + 1)) + (p3 ||| (k_shl 1 p2))).toNatClampNeg), S, rfl, hw, by rw [ht]; exact hP, va_K.moved hW.alike hK, hD⟩, hS.F ht⟩) hS.2.2 dX12_goingTo_36
def wM_layCheap_69 (post : MS → Prop) (K40 : Int32 → MS → Prop) (K46 : Int32 → Int32 → MS → Prop) : Nat → Int32 → Int32 → Int32 → Int32 → MS → Prop
  | 0, _, _, _, _, _ => False
  | n + 1, x1, x2, x3, x4, S => ((((ms_a S) 0) ≤ x4 → (vp_in ((64 * x1) + x2) 384 ∧ ∀ S_2 : MS, S_2 = (ms_set_cheap S (upd (ms_cheap S) (((64 * x1) + x2).toNatClampNeg) x3)) → K46 x1 (x2 + 1) S_2)) ∧ (¬ (((ms_a S) 0) ≤ x4) → wM_has x2 x4 S (fun r_4 S_5 => ((r_4 = 0 → wM_goingTo x1 x4 x2 S_5 (fun r_7 S_8 => ((x3 ≤ r_7 → wM_layCheap_69 post K40 K46 n x1 x2 x3 (x4 + 1) S_8) ∧ (¬ (x3 ≤ r_7) → wM_goingTo x1 x4 x2 S_8 (fun r_10 S_11 => wM_layCheap_69 post K40 K46 n x1 x2 r_10 (x4 + 1) S_11))))) ∧ (¬ (r_4 = 0) → wM_layCheap_69 post K40 K46 n x1 x2 x3 (x4 + 1) S_5)))))
def wM_layCheap_46 (post : MS → Prop) (K40 : Int32 → MS → Prop) : Nat → Int32 → Int32 → MS → Prop
  | 0, _, _, _ => False
  | n + 1, x1, x2, S => ((64 ≤ x2 → K40 (x1 + (-1)) S) ∧ (¬ (64 ≤ x2) → (vp_in ((64 * (x1 + 1)) + x2) 384 ∧ ∃ k_ : Nat, wM_layCheap_69 post K40 (wM_layCheap_46 post K40 n) k_ x1 x2 ((ms_cheap S) ((64 * (x1 + 1)) + x2).toNatClampNeg) 0 S)))
def wM_layCheap_40 (post : MS → Prop) : Nat → Int32 → MS → Prop
  | 0, _, _ => False
  | n + 1, x1, S => ((x1 < 0 → post S) ∧ (¬ (x1 < 0) → ∃ k_ : Nat, wM_layCheap_46 post (wM_layCheap_40 post n) k_ x1 0 S))
def wM_layCheap_2 (post : MS → Prop) : Nat → Int32 → MS → Prop
  | 0, _, _ => False
  | n + 1, x1, S => ((64 ≤ x1 → ∃ k_ : Nat, wM_layCheap_40 post k_ (((ms_a S) 1) - 1) S) ∧ (¬ (64 ≤ x1) → (vp_in ((64 * ((ms_a S) 1)) + x1) 384 ∧ ∀ S_2 : MS, S_2 = (ms_set_cheap S (upd (ms_cheap S) (((64 * ((ms_a S) 1)) + x1).toNatClampNeg) 0)) → wM_layCheap_2 post n (x1 + 1) S_2)))
def wM_layCheap (S : MS) (post : MS → Prop) : Prop := ∃ k_ : Nat, wM_layCheap_2 post k_ 0 S
set_option maxHeartbeats 4000000 in
set_option maxRecDepth 100000 in
theorem cM_layCheap (l : Launch) (D : va_G) (h : Nat → Nat) (cy : Nat → ClassId) (S : MS) (post : MS → Prop) (hw : wM_layCheap S post) : k_Mv l yX12_layCheap wsX12_layCheap { frames := 1, cells := 0, slots := 0, locals := 23 } D (tyM cy) (wM h cy) [.ref (h 31)] S post := by
  intro sz
  refine Met.ofW (cc := cX12_layCheap) (maxL := 5) (ret := none) (by decide) rfl ?_
  intro p e s m args below meth c s₁ B hml hv
  obtain ⟨rfl, hsz, hP, hK, hD0⟩ := hv
  have hx := B.exec
  have hb := B.bytes
  have hr := B.returns
  have hts := atoms_spec (ws := wsX12_layCheap) B.pre
  have hown : s.vm.findClass RX12 = some m.cls := findClass_of_methodNamed B.named
  have hlocks := B.notSynchronized
  subst hsz
  have hD := hD0.self (sz := s.heap.size)
  generalize hAe : va_A (wM h cy S) s.heap.size = A at hD ⊢
  have hA : ∀ q : Nat, s.heap.size ≤ q → A q := fun q h => by rw [← hAe]; exact Or.inr h
  have hS : va_S A s.heap s.heap [] := va_S.rf
  have hin : ∀ w ∈ wsX120, w ∈ wsX12_layCheap := fun _ h => List.mem_cons_of_mem _ (List.mem_append_right _ h)
  have w7 := hts (.fieldLink RX12 7 "ClownsMournModel" "a" "[I") (List.mem_of_getElem? (i := 2) rfl)
  have w58 := hts (.fieldLink RX12 58 "ClownsMournModel" "cheap" "[I") (List.mem_of_getElem? (i := 1) rfl)
  have hl := lv_entry ([.ref (h 31)]) (n := 5) (Nat.le_of_ble_eq_true rfl)
  rw [lg_entry_eq]
  generalize (lg_sl ([.ref (h 31)]) ++ List.replicate (5 - (lg_sl ([.ref (h 31)])).length) Slot.unset).toArray = ls at hl ⊢
  have hl : lv_has ls 5 [(0, .ref (h 31))] := hl
  unfold wM_layCheap at hw
  clear hD0
  have L_40 : ∀ (n40 : Nat) (x1 : Int32) (S : MS) (H : Heap) (locs : List Loc) (ls : Array Slot), wM_layCheap_40 post n40 x1 S → va_P D vwCl (wM h cy S) H → va_D A (wM h cy S) → va_S A s.heap H locs → lv_has ls 5 [(0, .ref (h 31)), (1, .int x1)] → W p l e (headSpec wsX12_layCheap { frames := 1, cells := 0, slots := 0, locals := 23 }).room s m (([.ref (h 31)] : List Value).toArray) below meth c H locs 0 0 (MQ below (va_Qv post (k_Post D (tyM cy) (wM h cy) A) A) (([.ref (h 31)] : List Value).toArray) s 0 0 A) (F0 m 40 ls []) := by
    intro n40
    induction n40 with
    | zero => intro x1 S H locs ls hw; exact False.elim hw
    | succ n40 ih_40 =>
      have L_46 : ∀ (n46 : Nat) (x1 : Int32) (x2 : Int32) (S : MS) (H : Heap) (locs : List Loc) (ls : Array Slot), wM_layCheap_46 post (wM_layCheap_40 post n40) n46 x1 x2 S → va_P D vwCl (wM h cy S) H → va_D A (wM h cy S) → va_S A s.heap H locs → lv_has ls 5 [(0, .ref (h 31)), (1, .int x1), (2, .int x2)] → W p l e (headSpec wsX12_layCheap { frames := 1, cells := 0, slots := 0, locals := 23 }).room s m (([.ref (h 31)] : List Value).toArray) below meth c H locs 0 0 (MQ below (va_Qv post (k_Post D (tyM cy) (wM h cy) A) A) (([.ref (h 31)] : List Value).toArray) s 0 0 A) (F0 m 46 ls []) := by
        intro n46
        induction n46 with
        | zero => intro x1 x2 S H locs ls hw; exact False.elim hw
        | succ n46 ih_46 =>
          have L_69 : ∀ (n69 : Nat) (x1 : Int32) (x2 : Int32) (x3 : Int32) (x4 : Int32) (S : MS) (H : Heap) (locs : List Loc) (ls : Array Slot), wM_layCheap_69 post (wM_layCheap_40 post n40) (wM_layCheap_46 post (wM_layCheap_40 post n40) n46) n69 x1 x2 x3 x4 S → va_P D vwCl (wM h cy S) H → va_D A (wM h cy S) → va_S A s.heap H locs → lv_has ls 5 [(0, .ref (h 31)), (1, .int x1), (2, .int x2), (3, .int x3), (4, .int x4)] → W p l e (headSpec wsX12_layCheap { frames := 1, cells := 0, slots := 0, locals := 23 }).room s m (([.ref (h 31)] : List Value).toArray) below meth c H locs 0 0 (MQ below (va_Qv post (k_Post D (tyM cy) (wM h cy) A) A) (([.ref (h 31)] : List Value).toArray) s 0 0 A) (F0 m 69 ls []) := by
            intro n69
            induction n69 with
            | zero => intro x1 x2 x3 x4 S H locs ls hw; exact False.elim hw
            | succ n69 ih_69 =>
              intro x1 x2 x3 x4 S H locs ls hw hP hD hS hl
              unfold wM_layCheap_69 at hw
              refine lv_iload hx hb dX12_layCheap_69 (lv_at hl 4 rfl) ?_
              refine lv_aload_n hx hb dX12_layCheap_71 rfl (lv_at hl 0 rfl) ?_
              refine va_get (D := D) (ci := 11) (v := .ref (h 0)) (C := RX12) (T := TX12) (N := 31) hx hb hts hin hown hK hP 0 rfl rfl 0 (by decide) w7 (fun _ h9 => h9) rfl dX12_layCheap_72 ?_
              refine lv_iconst (v := 0) hx hb dX12_layCheap_75 (by decide) ?_
              refine k_iald (f := (ms_a S)) (j := 0) hx hb hK hP 1 0 rfl rfl (by decide +kernel) rfl dX12_layCheap_76 ?_
              obtain ⟨hc_1t, hc_1f⟩ := hw
              refine lv_icmp_ge (tgt := 116) hx hb dX12_layCheap_77 (by decide) (fun c_1 => ?_) (fun c_1 => ?_)
              · have hw := hc_1t c_1
                clear hc_1t hc_1f
                refine lv_aload_n hx hb dX12_layCheap_116 rfl (lv_at hl 0 rfl) ?_
                refine va_get (D := D) (ci := 11) (v := .ref (h 29)) (C := RX12) (T := TX12) (N := 31) hx hb hts hin hown hK hP 0 rfl rfl 29 (by decide) w58 (fun _ h9 => h9) rfl dX12_layCheap_117 ?_
                refine lv_bipush (v := 64) hx hb dX12_layCheap_120 (by decide) ?_
                refine lv_iload_n hx hb dX12_layCheap_122 rfl (lv_at hl 1 rfl) ?_
                refine lv_imul hx hb dX12_layCheap_123 ?_
                refine lv_iload_n hx hb dX12_layCheap_124 rfl (lv_at hl 2 rfl) ?_
                refine lv_iadd hx hb dX12_layCheap_125 ?_
                refine lv_iload_n hx hb dX12_layCheap_126 rfl (lv_at hl 3 rfl) ?_
                obtain ⟨hi_3, hw⟩ := hw
                refine va_iast (f := (ms_cheap S)) hx hb hK hP hD hS 14 13 rfl rfl hi_3 dX12_layCheap_127 (fun H locs hP hD hS => ?_)
                obtain ⟨S_2, eS_2⟩ : ∃ z : MS, z = (ms_set_cheap S (upd (ms_cheap S) (((64 * x1) + x2).toNatClampNeg) x3)) := ⟨_, rfl⟩
                have hw := hw S_2 eS_2
                have hP : va_P D vwCl (wM h cy S_2) H := by rw [eS_2, ← wMs_cheap]; exact hP
                have hD : va_D A (wM h cy S_2) := by rw [eS_2, ← wMs_cheap]; exact hD
                refine lv_iinc (v := x2 + 1) (lv' := [(2, .int (x2 + 1)), (0, .ref (h 31)), (1, .int x1), (3, .int x3), (4, .int x4)]) hx hb dX12_layCheap_128 hl (k := 2) rfl (k_inc (by decide)) (by decide) rfl (fun ls hl => ?_)
                refine lv_goto (tgt := 46) hx hb dX12_layCheap_131 (by decide) ?_
                exact ih_46 x1 (x2 + 1) S_2 _ _ _ hw hP hD hS (lv_sub hl [1, 2, 0] rfl)
              · have hw := hc_1f c_1
                clear hc_1t hc_1f
                refine lv_iload_n hx hb dX12_layCheap_80 rfl (lv_at hl 2 rfl) ?_
                refine lv_iload hx hb dX12_layCheap_81 (lv_at hl 4 rfl) ?_
                refine k_callSi (As := [.int x2, .int x4]) (rest := []) ⟨hx, hb, hml, hown, hts⟩ (cM_has l D h cy _ _ _ _ hw) (va_cwS 2 hts gX12_layCheap_X12_has rfl rfl rfl (by decide +kernel) ⟨Nat.le_of_ble_eq_true rfl, Nat.le_of_ble_eq_true rfl⟩) hK hP hD hS hA rfl hl.1 rfl (Nat.le_of_ble_eq_true rfl) dX12_layCheap_83 ⟨Nat.zero_le _, Nat.zero_le _⟩ (fun r_4 S_5 H locs hw hP hD hS => ?_)
                obtain ⟨hc_6t, hc_6f⟩ := hw
                refine lv_if_ne (tgt := 110) hx hb dX12_layCheap_86 (by decide) (fun c_6 => ?_) (fun c_6 => ?_)
                · have hw := hc_6f c_6
                  clear hc_6t hc_6f
                  refine lv_iinc (v := x4 + 1) (lv' := [(4, .int (x4 + 1)), (0, .ref (h 31)), (1, .int x1), (2, .int x2), (3, .int x3)]) hx hb dX12_layCheap_110 hl (k := 4) rfl (k_inc (by decide)) (by decide) rfl (fun ls hl => ?_)
                  refine lv_goto (tgt := 69) hx hb dX12_layCheap_113 (by decide) ?_
                  exact ih_69 x1 x2 x3 (x4 + 1) S_5 _ _ _ hw hP hD hS (lv_sub hl [1, 2, 3, 4, 0] rfl)
                · have hw := hc_6t c_6
                  clear hc_6t hc_6f
                  refine lv_aload_n hx hb dX12_layCheap_89 rfl (lv_at hl 0 rfl) ?_
                  refine lv_iload_n hx hb dX12_layCheap_90 rfl (lv_at hl 1 rfl) ?_
                  refine lv_iload hx hb dX12_layCheap_91 (lv_at hl 4 rfl) ?_
                  refine lv_iload_n hx hb dX12_layCheap_93 rfl (lv_at hl 2 rfl) ?_
                  refine k_callVi (As := [.int x1, .int x4, .int x2]) (rest := []) ⟨hx, hb, hml, hown, hts⟩ (cM_goingTo l D h cy _ _ _ _ _ hw) (cwV 3 hts gX12_layCheap_X12_goingTo rfl rfl rfl (by decide +kernel) ⟨Nat.le_of_ble_eq_true rfl, Nat.le_of_ble_eq_true rfl⟩) (va_recv hK hP (ci := 11) (q0 := 0) rfl rfl) hK hP hD hS hA rfl hl.1 rfl (Nat.le_of_ble_eq_true rfl) dX12_layCheap_94 ⟨Nat.zero_le _, Nat.zero_le _⟩ (fun r_7 S_8 H locs hw hP hD hS => ?_)
                  refine lv_iload_n hx hb dX12_layCheap_97 rfl (lv_at hl 3 rfl) ?_
                  obtain ⟨hc_9t, hc_9f⟩ := hw
                  refine lv_icmp_ge (tgt := 110) hx hb dX12_layCheap_98 (by decide) (fun c_9 => ?_) (fun c_9 => ?_)
                  · have hw := hc_9t c_9
                    clear hc_9t hc_9f
                    refine lv_iinc (v := x4 + 1) (lv' := [(4, .int (x4 + 1)), (0, .ref (h 31)), (1, .int x1), (2, .int x2), (3, .int x3)]) hx hb dX12_layCheap_110 hl (k := 4) rfl (k_inc (by decide)) (by decide) rfl (fun ls hl => ?_)
                    refine lv_goto (tgt := 69) hx hb dX12_layCheap_113 (by decide) ?_
                    exact ih_69 x1 x2 x3 (x4 + 1) S_8 _ _ _ hw hP hD hS (lv_sub hl [1, 2, 3, 4, 0] rfl)
                  · have hw := hc_9f c_9
                    clear hc_9t hc_9f
                    refine lv_aload_n hx hb dX12_layCheap_101 rfl (lv_at hl 0 rfl) ?_
                    refine lv_iload_n hx hb dX12_layCheap_102 rfl (lv_at hl 1 rfl) ?_
                    refine lv_iload hx hb dX12_layCheap_103 (lv_at hl 4 rfl) ?_
                    refine lv_iload_n hx hb dX12_layCheap_105 rfl (lv_at hl 2 rfl) ?_
                    refine k_callVi (As := [.int x1, .int x4, .int x2]) (rest := []) ⟨hx, hb, hml, hown, hts⟩ (cM_goingTo l D h cy _ _ _ _ _ hw) (cwV 3 hts gX12_layCheap_X12_goingTo rfl rfl rfl (by decide +kernel) ⟨Nat.le_of_ble_eq_true rfl, Nat.le_of_ble_eq_true rfl⟩) (va_recv hK hP (ci := 11) (q0 := 0) rfl rfl) hK hP hD hS hA rfl hl.1 rfl (Nat.le_of_ble_eq_true rfl) dX12_layCheap_106 ⟨Nat.zero_le _, Nat.zero_le _⟩ (fun r_10 S_11 H locs hw hP hD hS => ?_)
                    refine lv_istore_n (lv' := [(3, .int r_10), (0, .ref (h 31)), (1, .int x1), (2, .int x2), (4, .int x4)]) hx hb dX12_layCheap_109 rfl hl (by decide) rfl (fun ls hl => ?_)
                    refine lv_iinc (v := x4 + 1) (lv' := [(4, .int (x4 + 1)), (3, .int r_10), (0, .ref (h 31)), (1, .int x1), (2, .int x2)]) hx hb dX12_layCheap_110 hl (k := 4) rfl (k_inc (by decide)) (by decide) rfl (fun ls hl => ?_)
                    refine lv_goto (tgt := 69) hx hb dX12_layCheap_113 (by decide) ?_
                    exact ih_69 x1 x2 r_10 (x4 + 1) S_11 _ _ _ hw hP hD hS (lv_sub hl [2, 3, 4, 1, 0] rfl)
          intro x1 x2 S H locs ls hw hP hD hS hl
          unfold wM_layCheap_46 at hw
          refine lv_iload_n hx hb dX12_layCheap_46 rfl (lv_at hl 2 rfl) ?_
          refine lv_bipush (v := 64) hx hb dX12_layCheap_47 (by decide) ?_
          obtain ⟨hc_12t, hc_12f⟩ := hw
          refine lv_icmp_ge (tgt := 134) hx hb dX12_layCheap_49 (by decide) (fun c_12 => ?_) (fun c_12 => ?_)
          · have hw := hc_12t c_12
            clear hc_12t hc_12f
            refine lv_iinc (v := x1 + (-1)) (lv' := [(1, .int (x1 + (-1))), (0, .ref (h 31)), (2, .int x2)]) hx hb dX12_layCheap_134 hl (k := 1) rfl (k_inc (by decide)) (by decide) rfl (fun ls hl => ?_)
            refine lv_goto (tgt := 40) hx hb dX12_layCheap_137 (by decide) ?_
            exact ih_40 (x1 + (-1)) S _ _ _ hw hP hD hS (lv_sub hl [1, 0] rfl)
          · have hw := hc_12f c_12
            clear hc_12t hc_12f
            refine lv_aload_n hx hb dX12_layCheap_52 rfl (lv_at hl 0 rfl) ?_
            refine va_get (D := D) (ci := 11) (v := .ref (h 29)) (C := RX12) (T := TX12) (N := 31) hx hb hts hin hown hK hP 0 rfl rfl 29 (by decide) w58 (fun _ h9 => h9) rfl dX12_layCheap_53 ?_
            refine lv_bipush (v := 64) hx hb dX12_layCheap_56 (by decide) ?_
            refine lv_iload_n hx hb dX12_layCheap_58 rfl (lv_at hl 1 rfl) ?_
            refine lv_iconst (v := 1) hx hb dX12_layCheap_59 (by decide) ?_
            refine lv_iadd hx hb dX12_layCheap_60 ?_
            refine lv_imul hx hb dX12_layCheap_61 ?_
            refine lv_iload_n hx hb dX12_layCheap_62 rfl (lv_at hl 2 rfl) ?_
            refine lv_iadd hx hb dX12_layCheap_63 ?_
            obtain ⟨hi_13, hw⟩ := hw
            refine va_iald (f := (ms_cheap S)) hx hb hK hP 14 13 rfl rfl hi_13 dX12_layCheap_64 ?_
            refine lv_istore_n (lv' := [(3, .int ((ms_cheap S) ((64 * (x1 + 1)) + x2).toNatClampNeg)), (0, .ref (h 31)), (1, .int x1), (2, .int x2)]) hx hb dX12_layCheap_65 rfl hl (by decide) rfl (fun ls hl => ?_)
            refine lv_iconst (v := 0) hx hb dX12_layCheap_66 (by decide) ?_
            refine lv_istore (lv' := [(4, .int 0), (3, .int ((ms_cheap S) ((64 * (x1 + 1)) + x2).toNatClampNeg)), (0, .ref (h 31)), (1, .int x1), (2, .int x2)]) hx hb dX12_layCheap_67 hl (by decide) rfl (fun ls hl => ?_)
            obtain ⟨n_69, hw⟩ := hw
            exact L_69 n_69 x1 x2 ((ms_cheap S) ((64 * (x1 + 1)) + x2).toNatClampNeg) 0 S _ _ _ hw hP hD hS (lv_sub hl [2, 3, 4, 1, 0] rfl)
      intro x1 S H locs ls hw hP hD hS hl
      unfold wM_layCheap_40 at hw
      refine lv_iload_n hx hb dX12_layCheap_40 rfl (lv_at hl 1 rfl) ?_
      obtain ⟨hc_14t, hc_14f⟩ := hw
      refine lv_if_lt (tgt := 140) hx hb dX12_layCheap_41 (by decide) (fun c_14 => ?_) (fun c_14 => ?_)
      · have hw := hc_14t c_14
        clear hc_14t hc_14f
        exact W.vret hx hb hr (fun t ht hW => ⟨⟨S, rfl, hw, by rw [ht]; exact hP, va_K.moved hW.alike hK, hD⟩, hS.F ht⟩) hS.2.2 dX12_layCheap_140
      · have hw := hc_14f c_14
        clear hc_14t hc_14f
        refine lv_iconst (v := 0) hx hb dX12_layCheap_44 (by decide) ?_
        refine lv_istore_n (lv' := [(2, .int 0), (0, .ref (h 31)), (1, .int x1)]) hx hb dX12_layCheap_45 rfl hl (by decide) rfl (fun ls hl => ?_)
        obtain ⟨n_46, hw⟩ := hw
        exact L_46 n_46 x1 0 S _ _ _ hw hP hD hS (lv_sub hl [1, 2, 0] rfl)
  have L_2 : ∀ (n2 : Nat) (x1 : Int32) (S : MS) (H : Heap) (locs : List Loc) (ls : Array Slot), wM_layCheap_2 post n2 x1 S → va_P D vwCl (wM h cy S) H → va_D A (wM h cy S) → va_S A s.heap H locs → lv_has ls 5 [(0, .ref (h 31)), (1, .int x1)] → W p l e (headSpec wsX12_layCheap { frames := 1, cells := 0, slots := 0, locals := 23 }).room s m (([.ref (h 31)] : List Value).toArray) below meth c H locs 0 0 (MQ below (va_Qv post (k_Post D (tyM cy) (wM h cy) A) A) (([.ref (h 31)] : List Value).toArray) s 0 0 A) (F0 m 2 ls []) := by
    intro n2
    induction n2 with
    | zero => intro x1 S H locs ls hw; exact False.elim hw
    | succ n2 ih_2 =>
      intro x1 S H locs ls hw hP hD hS hl
      unfold wM_layCheap_2 at hw
      refine lv_iload_n hx hb dX12_layCheap_2 rfl (lv_at hl 1 rfl) ?_
      refine lv_bipush (v := 64) hx hb dX12_layCheap_3 (by decide) ?_
      obtain ⟨hc_15t, hc_15f⟩ := hw
      refine lv_icmp_ge (tgt := 31) hx hb dX12_layCheap_5 (by decide) (fun c_15 => ?_) (fun c_15 => ?_)
      · have hw := hc_15t c_15
        clear hc_15t hc_15f
        refine lv_aload_n hx hb dX12_layCheap_31 rfl (lv_at hl 0 rfl) ?_
        refine va_get (D := D) (ci := 11) (v := .ref (h 0)) (C := RX12) (T := TX12) (N := 31) hx hb hts hin hown hK hP 0 rfl rfl 0 (by decide) w7 (fun _ h9 => h9) rfl dX12_layCheap_32 ?_
        refine lv_iconst (v := 1) hx hb dX12_layCheap_35 (by decide) ?_
        refine k_iald (f := (ms_a S)) (j := 1) hx hb hK hP 1 0 rfl rfl (by decide +kernel) rfl dX12_layCheap_36 ?_
        refine lv_iconst (v := 1) hx hb dX12_layCheap_37 (by decide) ?_
        refine lv_isub hx hb dX12_layCheap_38 ?_
        refine lv_istore_n (lv' := [(1, .int (((ms_a S) 1) - 1)), (0, .ref (h 31))]) hx hb dX12_layCheap_39 rfl hl (by decide) rfl (fun ls hl => ?_)
        obtain ⟨n_40, hw⟩ := hw
        exact L_40 n_40 (((ms_a S) 1) - 1) S _ _ _ hw hP hD hS (lv_sub hl [1, 0] rfl)
      · have hw := hc_15f c_15
        clear hc_15t hc_15f
        refine lv_aload_n hx hb dX12_layCheap_8 rfl (lv_at hl 0 rfl) ?_
        refine va_get (D := D) (ci := 11) (v := .ref (h 29)) (C := RX12) (T := TX12) (N := 31) hx hb hts hin hown hK hP 0 rfl rfl 29 (by decide) w58 (fun _ h9 => h9) rfl dX12_layCheap_9 ?_
        refine lv_bipush (v := 64) hx hb dX12_layCheap_12 (by decide) ?_
        refine lv_aload_n hx hb dX12_layCheap_14 rfl (lv_at hl 0 rfl) ?_
        refine va_get (D := D) (ci := 11) (v := .ref (h 0)) (C := RX12) (T := TX12) (N := 31) hx hb hts hin hown hK hP 0 rfl rfl 0 (by decide) w7 (fun _ h9 => h9) rfl dX12_layCheap_15 ?_
        refine lv_iconst (v := 1) hx hb dX12_layCheap_18 (by decide) ?_
        refine k_iald (f := (ms_a S)) (j := 1) hx hb hK hP 1 0 rfl rfl (by decide +kernel) rfl dX12_layCheap_19 ?_
        refine lv_imul hx hb dX12_layCheap_20 ?_
        refine lv_iload_n hx hb dX12_layCheap_21 rfl (lv_at hl 1 rfl) ?_
        refine lv_iadd hx hb dX12_layCheap_22 ?_
        refine lv_iconst (v := 0) hx hb dX12_layCheap_23 (by decide) ?_
        obtain ⟨hi_17, hw⟩ := hw
        refine va_iast (f := (ms_cheap S)) hx hb hK hP hD hS 14 13 rfl rfl hi_17 dX12_layCheap_24 (fun H locs hP hD hS => ?_)
        obtain ⟨S_16, eS_16⟩ : ∃ z : MS, z = (ms_set_cheap S (upd (ms_cheap S) (((64 * ((ms_a S) 1)) + x1).toNatClampNeg) 0)) := ⟨_, rfl⟩
        have hw := hw S_16 eS_16
        have hP : va_P D vwCl (wM h cy S_16) H := by rw [eS_16, ← wMs_cheap]; exact hP
        have hD : va_D A (wM h cy S_16) := by rw [eS_16, ← wMs_cheap]; exact hD
        refine lv_iinc (v := x1 + 1) (lv' := [(1, .int (x1 + 1)), (0, .ref (h 31))]) hx hb dX12_layCheap_25 hl (k := 1) rfl (k_inc (by decide)) (by decide) rfl (fun ls hl => ?_)
        refine lv_goto (tgt := 2) hx hb dX12_layCheap_28 (by decide) ?_
        exact ih_2 (x1 + 1) S_16 _ _ _ hw hP hD hS (lv_sub hl [1, 0] rfl)
  refine lv_iconst (v := 0) hx hb dX12_layCheap_0 (by decide) ?_
  refine lv_istore_n (lv' := [(1, .int 0), (0, .ref (h 31))]) hx hb dX12_layCheap_1 rfl hl (by decide) rfl (fun ls hl => ?_)
  obtain ⟨n_2, hw⟩ := hw
  exact L_2 n_2 0 S _ _ _ hw hP hD hS (lv_sub hl [1, 0] rfl)
def wM_goesTo_2 (post : Int32 → MS → Prop) : Nat → Int32 → Int32 → Int32 → MS → Prop
  | 0, _, _, _, _ => False
  | n + 1, x1, x2, x3, S => ((((ms_a S) 0) ≤ x3 → post (-1) S) ∧ (¬ (((ms_a S) 0) ≤ x3) → wM_has x2 x3 S (fun r_2 S_3 => ((r_2 = 0 → wM_goingTo x1 x3 x2 S_3 (fun r_5 S_6 => (vp_in ((64 * x1) + x2) 384 ∧ ((r_5 = ((ms_cheap S_6) ((64 * x1) + x2).toNatClampNeg) → post x3 S_6) ∧ (¬ (r_5 = ((ms_cheap S_6) ((64 * x1) + x2).toNatClampNeg)) → wM_goesTo_2 post n x1 x2 (x3 + 1) S_6))))) ∧ (¬ (r_2 = 0) → wM_goesTo_2 post n x1 x2 (x3 + 1) S_3)))))
def wM_goesTo (p1 : Int32) (p2 : Int32) (S : MS) (post : Int32 → MS → Prop) : Prop := ∃ k_ : Nat, wM_goesTo_2 post k_ p1 p2 0 S
set_option maxHeartbeats 4000000 in
set_option maxRecDepth 100000 in
theorem cM_goesTo (l : Launch) (D : va_G) (h : Nat → Nat) (cy : Nat → ClassId) (p1 : Int32) (p2 : Int32) (S : MS) (post : Int32 → MS → Prop) (hw : wM_goesTo p1 p2 S post) : k_Mi l yX12_goesTo wsX12_goesTo { frames := 1, cells := 0, slots := 0, locals := 23 } D (tyM cy) (wM h cy) [.ref (h 31), .int p1, .int p2] S post := by
  intro sz
  refine Met.ofW (cc := cX12_goesTo) (maxL := 4) (ret := (some .int)) (by decide) rfl ?_
  intro p e s m args below meth c s₁ B hml hv
  obtain ⟨rfl, hsz, hP, hK, hD0⟩ := hv
  have hx := B.exec
  have hb := B.bytes
  have hr := B.returns
  have hts := atoms_spec (ws := wsX12_goesTo) B.pre
  have hown : s.vm.findClass RX12 = some m.cls := findClass_of_methodNamed B.named
  have hlocks := B.notSynchronized
  subst hsz
  have hD := hD0.self (sz := s.heap.size)
  generalize hAe : va_A (wM h cy S) s.heap.size = A at hD ⊢
  have hA : ∀ q : Nat, s.heap.size ≤ q → A q := fun q h => by rw [← hAe]; exact Or.inr h
  have hS : va_S A s.heap s.heap [] := va_S.rf
  have hin : ∀ w ∈ wsX120, w ∈ wsX12_goesTo := fun _ h => List.mem_cons_of_mem _ (List.mem_append_right _ h)
  have w7 := hts (.fieldLink RX12 7 "ClownsMournModel" "a" "[I") (List.mem_of_getElem? (i := 1) rfl)
  have w58 := hts (.fieldLink RX12 58 "ClownsMournModel" "cheap" "[I") (List.mem_of_getElem? (i := 2) rfl)
  have hl := lv_entry ([.ref (h 31), .int p1, .int p2]) (n := 4) (Nat.le_of_ble_eq_true rfl)
  rw [lg_entry_eq]
  generalize (lg_sl ([.ref (h 31), .int p1, .int p2]) ++ List.replicate (4 - (lg_sl ([.ref (h 31), .int p1, .int p2])).length) Slot.unset).toArray = ls at hl ⊢
  have hl : lv_has ls 4 [(0, .ref (h 31)), (1, .int p1), (2, .int p2)] := hl
  unfold wM_goesTo at hw
  clear hD0
  have L_2 : ∀ (n2 : Nat) (x1 : Int32) (x2 : Int32) (x3 : Int32) (S : MS) (H : Heap) (locs : List Loc) (ls : Array Slot), wM_goesTo_2 post n2 x1 x2 x3 S → va_P D vwCl (wM h cy S) H → va_D A (wM h cy S) → va_S A s.heap H locs → lv_has ls 4 [(0, .ref (h 31)), (1, .int x1), (2, .int x2), (3, .int x3)] → W p l e (headSpec wsX12_goesTo { frames := 1, cells := 0, slots := 0, locals := 23 }).room s m (([.ref (h 31), .int p1, .int p2] : List Value).toArray) below meth c H locs 0 0 (MQ below (va_Qi post (k_Post D (tyM cy) (wM h cy) A) A) (([.ref (h 31), .int p1, .int p2] : List Value).toArray) s 0 0 A) (F0 m 2 ls []) := by
    intro n2
    induction n2 with
    | zero => intro x1 x2 x3 S H locs ls hw; exact False.elim hw
    | succ n2 ih_2 =>
      intro x1 x2 x3 S H locs ls hw hP hD hS hl
      unfold wM_goesTo_2 at hw
      refine lv_iload_n hx hb dX12_goesTo_2 rfl (lv_at hl 3 rfl) ?_
      refine lv_aload_n hx hb dX12_goesTo_3 rfl (lv_at hl 0 rfl) ?_
      refine va_get (D := D) (ci := 11) (v := .ref (h 0)) (C := RX12) (T := TX12) (N := 31) hx hb hts hin hown hK hP 0 rfl rfl 0 (by decide) w7 (fun _ h9 => h9) rfl dX12_goesTo_4 ?_
      refine lv_iconst (v := 0) hx hb dX12_goesTo_7 (by decide) ?_
      refine k_iald (f := (ms_a S)) (j := 0) hx hb hK hP 1 0 rfl rfl (by decide +kernel) rfl dX12_goesTo_8 ?_
      obtain ⟨hc_1t, hc_1f⟩ := hw
      refine lv_icmp_ge (tgt := 49) hx hb dX12_goesTo_9 (by decide) (fun c_1 => ?_) (fun c_1 => ?_)
      · have hw := hc_1t c_1
        clear hc_1t hc_1f
        refine lv_iconst (v := (-1)) hx hb dX12_goesTo_49 (by decide) ?_
        exact W.iret (v := (-1)) hx hb hr (fun t ht hW => ⟨⟨(-1), S, rfl, hw, by rw [ht]; exact hP, va_K.moved hW.alike hK, hD⟩, hS.F ht⟩) hS.2.2 dX12_goesTo_50
      · have hw := hc_1f c_1
        clear hc_1t hc_1f
        refine lv_iload_n hx hb dX12_goesTo_12 rfl (lv_at hl 2 rfl) ?_
        refine lv_iload_n hx hb dX12_goesTo_13 rfl (lv_at hl 3 rfl) ?_
        refine k_callSi (As := [.int x2, .int x3]) (rest := []) ⟨hx, hb, hml, hown, hts⟩ (cM_has l D h cy _ _ _ _ hw) (va_cwS 2 hts gX12_goesTo_X12_has rfl rfl rfl (by decide +kernel) ⟨Nat.le_of_ble_eq_true rfl, Nat.le_of_ble_eq_true rfl⟩) hK hP hD hS hA rfl hl.1 rfl (Nat.le_of_ble_eq_true rfl) dX12_goesTo_14 ⟨Nat.zero_le _, Nat.zero_le _⟩ (fun r_2 S_3 H locs hw hP hD hS => ?_)
        obtain ⟨hc_4t, hc_4f⟩ := hw
        refine lv_if_ne (tgt := 43) hx hb dX12_goesTo_17 (by decide) (fun c_4 => ?_) (fun c_4 => ?_)
        · have hw := hc_4f c_4
          clear hc_4t hc_4f
          refine lv_iinc (v := x3 + 1) (lv' := [(3, .int (x3 + 1)), (0, .ref (h 31)), (1, .int x1), (2, .int x2)]) hx hb dX12_goesTo_43 hl (k := 3) rfl (k_inc (by decide)) (by decide) rfl (fun ls hl => ?_)
          refine lv_goto (tgt := 2) hx hb dX12_goesTo_46 (by decide) ?_
          exact ih_2 x1 x2 (x3 + 1) S_3 _ _ _ hw hP hD hS (lv_sub hl [1, 2, 3, 0] rfl)
        · have hw := hc_4t c_4
          clear hc_4t hc_4f
          refine lv_aload_n hx hb dX12_goesTo_20 rfl (lv_at hl 0 rfl) ?_
          refine lv_iload_n hx hb dX12_goesTo_21 rfl (lv_at hl 1 rfl) ?_
          refine lv_iload_n hx hb dX12_goesTo_22 rfl (lv_at hl 3 rfl) ?_
          refine lv_iload_n hx hb dX12_goesTo_23 rfl (lv_at hl 2 rfl) ?_
          refine k_callVi (As := [.int x1, .int x3, .int x2]) (rest := []) ⟨hx, hb, hml, hown, hts⟩ (cM_goingTo l D h cy _ _ _ _ _ hw) (cwV 3 hts gX12_goesTo_X12_goingTo rfl rfl rfl (by decide +kernel) ⟨Nat.le_of_ble_eq_true rfl, Nat.le_of_ble_eq_true rfl⟩) (va_recv hK hP (ci := 11) (q0 := 0) rfl rfl) hK hP hD hS hA rfl hl.1 rfl (Nat.le_of_ble_eq_true rfl) dX12_goesTo_24 ⟨Nat.zero_le _, Nat.zero_le _⟩ (fun r_5 S_6 H locs hw hP hD hS => ?_)
          refine lv_aload_n hx hb dX12_goesTo_27 rfl (lv_at hl 0 rfl) ?_
          refine va_get (D := D) (ci := 11) (v := .ref (h 29)) (C := RX12) (T := TX12) (N := 31) hx hb hts hin hown hK hP 0 rfl rfl 29 (by decide) w58 (fun _ h9 => h9) rfl dX12_goesTo_28 ?_
          refine lv_bipush (v := 64) hx hb dX12_goesTo_31 (by decide) ?_
          refine lv_iload_n hx hb dX12_goesTo_33 rfl (lv_at hl 1 rfl) ?_
          refine lv_imul hx hb dX12_goesTo_34 ?_
          refine lv_iload_n hx hb dX12_goesTo_35 rfl (lv_at hl 2 rfl) ?_
          refine lv_iadd hx hb dX12_goesTo_36 ?_
          obtain ⟨hi_8, hw⟩ := hw
          refine va_iald (f := (ms_cheap S_6)) hx hb hK hP 14 13 rfl rfl hi_8 dX12_goesTo_37 ?_
          obtain ⟨hc_7t, hc_7f⟩ := hw
          refine lv_icmp_ne (tgt := 43) hx hb dX12_goesTo_38 (by decide) (fun c_7 => ?_) (fun c_7 => ?_)
          · have hw := hc_7f c_7
            clear hc_7t hc_7f
            refine lv_iinc (v := x3 + 1) (lv' := [(3, .int (x3 + 1)), (0, .ref (h 31)), (1, .int x1), (2, .int x2)]) hx hb dX12_goesTo_43 hl (k := 3) rfl (k_inc (by decide)) (by decide) rfl (fun ls hl => ?_)
            refine lv_goto (tgt := 2) hx hb dX12_goesTo_46 (by decide) ?_
            exact ih_2 x1 x2 (x3 + 1) S_6 _ _ _ hw hP hD hS (lv_sub hl [1, 2, 3, 0] rfl)
          · have hw := hc_7t c_7
            clear hc_7t hc_7f
            refine lv_iload_n hx hb dX12_goesTo_41 rfl (lv_at hl 3 rfl) ?_
            exact W.iret (v := x3) hx hb hr (fun t ht hW => ⟨⟨x3, S_6, rfl, hw, by rw [ht]; exact hP, va_K.moved hW.alike hK, hD⟩, hS.F ht⟩) hS.2.2 dX12_goesTo_42
  refine lv_iconst (v := 0) hx hb dX12_goesTo_0 (by decide) ?_
  refine lv_istore_n (lv' := [(3, .int 0), (0, .ref (h 31)), (1, .int p1), (2, .int p2)]) hx hb dX12_goesTo_1 rfl hl (by decide) rfl (fun ls hl => ?_)
  obtain ⟨n_2, hw⟩ := hw
  exact L_2 n_2 p1 p2 0 S _ _ _ hw hP hD hS (lv_sub hl [1, 2, 3, 0] rfl)
def wM_matched_77 (post : Int32 → MS → Prop) : Nat → Int32 → Int32 → Int32 → Int32 → MS → Prop
  | 0, _, _, _, _, _ => False
  | n + 1, x1, x3, x4, x5, S => ((x1 < x5 → post x4 S) ∧ (¬ (x1 < x5) → wM_goesTo x5 x3 S (fun r_2 S_3 => ((r_2 = (-1) → wM_matched_77 post n x1 (x3 ||| 0) r_2 (x5 + 1) S_3) ∧ (¬ (r_2 = (-1)) → wM_matched_77 post n x1 (x3 ||| (k_shl 1 r_2)) r_2 (x5 + 1) S_3)))))
def wM_matched_50 (post : Int32 → MS → Prop) (x1 : Int32) (t0 : Int32) (S : MS) : Prop := ((x1 = (-1) → post (((ms_cheap S) 0) + (10000 * t0)) S) ∧ (¬ (x1 = (-1)) → ∃ k_ : Nat, wM_matched_77 post k_ x1 0 (-1) 0 S))
def wM_matched_16 (post : Int32 → MS → Prop) (x1 : Int32) (S : MS) : Prop := wM_layCheap S (fun S_2 => ((((ms_a S_2) 0) ≤ ((ms_a S_2) 1) → wM_matched_50 post x1 ((ms_a S_2) 0) S_2) ∧ (¬ (((ms_a S_2) 0) ≤ ((ms_a S_2) 1)) → wM_matched_50 post x1 ((ms_a S_2) 1) S_2)))
def wM_matched (p1 : Int32) (S : MS) (post : Int32 → MS → Prop) : Prop := ((p1 = (-1) → wM_matched_16 post p1 S) ∧ (¬ (p1 = (-1)) → wM_isClown p1 S (fun r_2 S_3 => ((r_2 = 0 → post (-2) S_3) ∧ (¬ (r_2 = 0) → wM_matched_16 post p1 S_3)))))
set_option maxHeartbeats 4000000 in
set_option maxRecDepth 100000 in
theorem cM_matched (l : Launch) (D : va_G) (h : Nat → Nat) (cy : Nat → ClassId) (p1 : Int32) (S : MS) (post : Int32 → MS → Prop) (hw : wM_matched p1 S post) : k_Mi l yX12_matched wsX12_matched { frames := 2, cells := 0, slots := 0, locals := 47 } D (tyM cy) (wM h cy) [.ref (h 31), .int p1] S post := by
  intro sz
  refine Met.ofW (cc := cX12_matched) (maxL := 6) (ret := (some .int)) (by decide) rfl ?_
  intro p e s m args below meth c s₁ B hml hv
  obtain ⟨rfl, hsz, hP, hK, hD0⟩ := hv
  have hx := B.exec
  have hb := B.bytes
  have hr := B.returns
  have hts := atoms_spec (ws := wsX12_matched) B.pre
  have hown : s.vm.findClass RX12 = some m.cls := findClass_of_methodNamed B.named
  have hlocks := B.notSynchronized
  subst hsz
  have hD := hD0.self (sz := s.heap.size)
  generalize hAe : va_A (wM h cy S) s.heap.size = A at hD ⊢
  have hA : ∀ q : Nat, s.heap.size ≤ q → A q := fun q h => by rw [← hAe]; exact Or.inr h
  have hS : va_S A s.heap s.heap [] := va_S.rf
  have hin : ∀ w ∈ wsX120, w ∈ wsX12_matched := fun _ h => List.mem_cons_of_mem _ (List.mem_append_right _ h)
  have w7 := hts (.fieldLink RX12 7 "ClownsMournModel" "a" "[I") (List.mem_of_getElem? (i := 1) rfl)
  have w58 := hts (.fieldLink RX12 58 "ClownsMournModel" "cheap" "[I") (List.mem_of_getElem? (i := 2) rfl)
  have hl := lv_entry ([.ref (h 31), .int p1]) (n := 6) (Nat.le_of_ble_eq_true rfl)
  rw [lg_entry_eq]
  generalize (lg_sl ([.ref (h 31), .int p1]) ++ List.replicate (6 - (lg_sl ([.ref (h 31), .int p1])).length) Slot.unset).toArray = ls at hl ⊢
  have hl : lv_has ls 6 [(0, .ref (h 31)), (1, .int p1)] := hl
  unfold wM_matched at hw
  clear hD0
  have L_77 : ∀ (n77 : Nat) (x1 : Int32) (x3 : Int32) (x4 : Int32) (x5 : Int32) (S : MS) (H : Heap) (locs : List Loc) (ls : Array Slot), wM_matched_77 post n77 x1 x3 x4 x5 S → va_P D vwCl (wM h cy S) H → va_D A (wM h cy S) → va_S A s.heap H locs → lv_has ls 6 [(0, .ref (h 31)), (1, .int x1), (3, .int x3), (4, .int x4), (5, .int x5)] → W p l e (headSpec wsX12_matched { frames := 2, cells := 0, slots := 0, locals := 47 }).room s m (([.ref (h 31), .int p1] : List Value).toArray) below meth c H locs 0 0 (MQ below (va_Qi post (k_Post D (tyM cy) (wM h cy) A) A) (([.ref (h 31), .int p1] : List Value).toArray) s 0 0 A) (F0 m 77 ls []) := by
    intro n77
    induction n77 with
    | zero => intro x1 x3 x4 x5 S H locs ls hw; exact False.elim hw
    | succ n77 ih_77 =>
      intro x1 x3 x4 x5 S H locs ls hw hP hD hS hl
      unfold wM_matched_77 at hw
      refine lv_iload hx hb dX12_matched_77 (lv_at hl 4 rfl) ?_
      refine lv_iload_n hx hb dX12_matched_79 rfl (lv_at hl 1 rfl) ?_
      obtain ⟨hc_1t, hc_1f⟩ := hw
      refine lv_icmp_gt (tgt := 115) hx hb dX12_matched_80 (by decide) (fun c_1 => ?_) (fun c_1 => ?_)
      · have hw := hc_1t c_1
        clear hc_1t hc_1f
        refine lv_iload hx hb dX12_matched_115 (lv_at hl 3 rfl) ?_
        exact W.iret (v := x4) hx hb hr (fun t ht hW => ⟨⟨x4, S, rfl, hw, by rw [ht]; exact hP, va_K.moved hW.alike hK, hD⟩, hS.F ht⟩) hS.2.2 dX12_matched_117
      · have hw := hc_1f c_1
        clear hc_1t hc_1f
        refine lv_aload_n hx hb dX12_matched_83 rfl (lv_at hl 0 rfl) ?_
        refine lv_iload hx hb dX12_matched_84 (lv_at hl 4 rfl) ?_
        refine lv_iload_n hx hb dX12_matched_86 rfl (lv_at hl 2 rfl) ?_
        refine k_callVi (As := [.int x5, .int x3]) (rest := []) ⟨hx, hb, hml, hown, hts⟩ (cM_goesTo l D h cy _ _ _ _ hw) (cwV 2 hts gX12_matched_X12_goesTo rfl rfl rfl (by decide +kernel) ⟨Nat.le_of_ble_eq_true rfl, Nat.le_of_ble_eq_true rfl⟩) (va_recv hK hP (ci := 11) (q0 := 0) rfl rfl) hK hP hD hS hA rfl hl.1 rfl (Nat.le_of_ble_eq_true rfl) dX12_matched_87 ⟨Nat.zero_le _, Nat.zero_le _⟩ (fun r_2 S_3 H locs hw hP hD hS => ?_)
        refine lv_istore (lv' := [(4, .int r_2), (0, .ref (h 31)), (1, .int x1), (3, .int x3), (5, .int x5)]) hx hb dX12_matched_90 hl (by decide) rfl (fun ls hl => ?_)
        refine lv_iload_n hx hb dX12_matched_92 rfl (lv_at hl 3 rfl) ?_
        refine lv_iload hx hb dX12_matched_93 (lv_at hl 0 rfl) ?_
        refine lv_iconst (v := (-1)) hx hb dX12_matched_95 (by decide) ?_
        obtain ⟨hc_4t, hc_4f⟩ := hw
        refine lv_icmp_ne (tgt := 103) hx hb dX12_matched_96 (by decide) (fun c_4 => ?_) (fun c_4 => ?_)
        · have hw := hc_4f c_4
          clear hc_4t hc_4f
          refine lv_iconst (v := 1) hx hb dX12_matched_103 (by decide) ?_
          refine lv_iload hx hb dX12_matched_104 (lv_at hl 0 rfl) ?_
          refine k_ishl hx hb dX12_matched_106 ?_
          refine lv_ior hx hb dX12_matched_107 ?_
          refine lv_istore_n (lv' := [(3, .int (x3 ||| (k_shl 1 r_2))), (4, .int r_2), (0, .ref (h 31)), (1, .int x1), (5, .int x5)]) hx hb dX12_matched_108 rfl hl (by decide) rfl (fun ls hl => ?_)
          refine lv_iinc (v := x5 + 1) (lv' := [(5, .int (x5 + 1)), (3, .int (x3 ||| (k_shl 1 r_2))), (4, .int r_2), (0, .ref (h 31)), (1, .int x1)]) hx hb dX12_matched_109 hl (k := 4) rfl (k_inc (by decide)) (by decide) rfl (fun ls hl => ?_)
          refine lv_goto (tgt := 77) hx hb dX12_matched_112 (by decide) ?_
          exact ih_77 x1 (x3 ||| (k_shl 1 r_2)) r_2 (x5 + 1) S_3 _ _ _ hw hP hD hS (lv_sub hl [3, 4, 1, 2, 0] rfl)
        · have hw := hc_4t c_4
          clear hc_4t hc_4f
          refine lv_iconst (v := 0) hx hb dX12_matched_99 (by decide) ?_
          refine lv_goto (tgt := 107) hx hb dX12_matched_100 (by decide) ?_
          refine lv_ior hx hb dX12_matched_107 ?_
          refine lv_istore_n (lv' := [(3, .int (x3 ||| 0)), (4, .int r_2), (0, .ref (h 31)), (1, .int x1), (5, .int x5)]) hx hb dX12_matched_108 rfl hl (by decide) rfl (fun ls hl => ?_)
          refine lv_iinc (v := x5 + 1) (lv' := [(5, .int (x5 + 1)), (3, .int (x3 ||| 0)), (4, .int r_2), (0, .ref (h 31)), (1, .int x1)]) hx hb dX12_matched_109 hl (k := 4) rfl (k_inc (by decide)) (by decide) rfl (fun ls hl => ?_)
          refine lv_goto (tgt := 77) hx hb dX12_matched_112 (by decide) ?_
          exact ih_77 x1 (x3 ||| 0) r_2 (x5 + 1) S_3 _ _ _ hw hP hD hS (lv_sub hl [3, 4, 1, 2, 0] rfl)
  have J_50 : ∀ (x1 : Int32) (t0 : Int32) (S : MS) (H : Heap) (locs : List Loc) (ls : Array Slot), wM_matched_50 post x1 t0 S → va_P D vwCl (wM h cy S) H → va_D A (wM h cy S) → va_S A s.heap H locs → lv_has ls 6 [(0, .ref (h 31)), (1, .int x1)] → W p l e (headSpec wsX12_matched { frames := 2, cells := 0, slots := 0, locals := 47 }).room s m (([.ref (h 31), .int p1] : List Value).toArray) below meth c H locs 0 0 (MQ below (va_Qi post (k_Post D (tyM cy) (wM h cy) A) A) (([.ref (h 31), .int p1] : List Value).toArray) s 0 0 A) (F0 m 50 ls [.int t0]) := by
    intro x1 t0 S H locs ls hw hP hD hS hl
    unfold wM_matched_50 at hw
    refine lv_istore_n (lv' := [(2, .int t0), (0, .ref (h 31)), (1, .int x1)]) hx hb dX12_matched_50 rfl hl (by decide) rfl (fun ls hl => ?_)
    refine lv_iload_n hx hb dX12_matched_51 rfl (lv_at hl 2 rfl) ?_
    refine lv_iconst (v := (-1)) hx hb dX12_matched_52 (by decide) ?_
    obtain ⟨hc_5t, hc_5f⟩ := hw
    refine lv_icmp_ne (tgt := 69) hx hb dX12_matched_53 (by decide) (fun c_5 => ?_) (fun c_5 => ?_)
    · have hw := hc_5f c_5
      clear hc_5t hc_5f
      refine lv_iconst (v := 0) hx hb dX12_matched_69 (by decide) ?_
      refine lv_istore_n (lv' := [(3, .int 0), (2, .int t0), (0, .ref (h 31)), (1, .int x1)]) hx hb dX12_matched_70 rfl hl (by decide) rfl (fun ls hl => ?_)
      refine lv_iconst (v := (-1)) hx hb dX12_matched_71 (by decide) ?_
      refine lv_istore (lv' := [(4, .int (-1)), (3, .int 0), (2, .int t0), (0, .ref (h 31)), (1, .int x1)]) hx hb dX12_matched_72 hl (by decide) rfl (fun ls hl => ?_)
      refine lv_iconst (v := 0) hx hb dX12_matched_74 (by decide) ?_
      refine lv_istore (lv' := [(5, .int 0), (4, .int (-1)), (3, .int 0), (2, .int t0), (0, .ref (h 31)), (1, .int x1)]) hx hb dX12_matched_75 hl (by decide) rfl (fun ls hl => ?_)
      obtain ⟨n_77, hw⟩ := hw
      exact L_77 n_77 x1 0 (-1) 0 S _ _ _ hw hP hD hS (lv_sub hl [4, 5, 2, 1, 0] rfl)
    · have hw := hc_5t c_5
      clear hc_5t hc_5f
      refine lv_aload_n hx hb dX12_matched_56 rfl (lv_at hl 1 rfl) ?_
      refine va_get (D := D) (ci := 11) (v := .ref (h 29)) (C := RX12) (T := TX12) (N := 31) hx hb hts hin hown hK hP 0 rfl rfl 29 (by decide) w58 (fun _ h9 => h9) rfl dX12_matched_57 ?_
      refine lv_iconst (v := 0) hx hb dX12_matched_60 (by decide) ?_
      refine k_iald (f := (ms_cheap S)) (j := 0) hx hb hK hP 14 13 rfl rfl (by decide +kernel) rfl dX12_matched_61 ?_
      refine lv_sipush (v := 10000) hx hb dX12_matched_62 (by decide) ?_
      refine lv_iload_n hx hb dX12_matched_65 rfl (lv_at hl 0 rfl) ?_
      refine lv_imul hx hb dX12_matched_66 ?_
      refine lv_iadd hx hb dX12_matched_67 ?_
      exact W.iret (v := ((ms_cheap S) 0) + (10000 * t0)) hx hb hr (fun t ht hW => ⟨⟨((ms_cheap S) 0) + (10000 * t0), S, rfl, hw, by rw [ht]; exact hP, va_K.moved hW.alike hK, hD⟩, hS.F ht⟩) hS.2.2 dX12_matched_68
  have J_16 : ∀ (x1 : Int32) (S : MS) (H : Heap) (locs : List Loc) (ls : Array Slot), wM_matched_16 post x1 S → va_P D vwCl (wM h cy S) H → va_D A (wM h cy S) → va_S A s.heap H locs → lv_has ls 6 [(0, .ref (h 31)), (1, .int x1)] → W p l e (headSpec wsX12_matched { frames := 2, cells := 0, slots := 0, locals := 47 }).room s m (([.ref (h 31), .int p1] : List Value).toArray) below meth c H locs 0 0 (MQ below (va_Qi post (k_Post D (tyM cy) (wM h cy) A) A) (([.ref (h 31), .int p1] : List Value).toArray) s 0 0 A) (F0 m 16 ls []) := by
    intro x1 S H locs ls hw hP hD hS hl
    unfold wM_matched_16 at hw
    refine lv_aload_n hx hb dX12_matched_16 rfl (lv_at hl 0 rfl) ?_
    refine k_callVv (As := []) (rest := []) ⟨hx, hb, hml, hown, hts⟩ (cM_layCheap l D h cy _ _ hw) (cwV 0 hts gX12_matched_X12_layCheap rfl rfl rfl (by decide +kernel) ⟨Nat.le_of_ble_eq_true rfl, Nat.le_of_ble_eq_true rfl⟩) (va_recv hK hP (ci := 11) (q0 := 0) rfl rfl) hK hP hD hS hA rfl hl.1 rfl (Nat.le_of_ble_eq_true rfl) dX12_matched_17 ⟨Nat.zero_le _, Nat.zero_le _⟩ (fun S_7 H locs hw hP hD hS => ?_)
    refine lv_aload_n hx hb dX12_matched_20 rfl (lv_at hl 0 rfl) ?_
    refine va_get (D := D) (ci := 11) (v := .ref (h 0)) (C := RX12) (T := TX12) (N := 31) hx hb hts hin hown hK hP 0 rfl rfl 0 (by decide) w7 (fun _ h9 => h9) rfl dX12_matched_21 ?_
    refine lv_iconst (v := 1) hx hb dX12_matched_24 (by decide) ?_
    refine k_iald (f := (ms_a S_7)) (j := 1) hx hb hK hP 1 0 rfl rfl (by decide +kernel) rfl dX12_matched_25 ?_
    refine lv_aload_n hx hb dX12_matched_26 rfl (lv_at hl 0 rfl) ?_
    refine va_get (D := D) (ci := 11) (v := .ref (h 0)) (C := RX12) (T := TX12) (N := 31) hx hb hts hin hown hK hP 0 rfl rfl 0 (by decide) w7 (fun _ h9 => h9) rfl dX12_matched_27 ?_
    refine lv_iconst (v := 0) hx hb dX12_matched_30 (by decide) ?_
    refine k_iald (f := (ms_a S_7)) (j := 0) hx hb hK hP 1 0 rfl rfl (by decide +kernel) rfl dX12_matched_31 ?_
    obtain ⟨hc_8t, hc_8f⟩ := hw
    refine lv_icmp_ge (tgt := 44) hx hb dX12_matched_32 (by decide) (fun c_8 => ?_) (fun c_8 => ?_)
    · have hw := hc_8t c_8
      clear hc_8t hc_8f
      refine lv_aload_n hx hb dX12_matched_44 rfl (lv_at hl 0 rfl) ?_
      refine va_get (D := D) (ci := 11) (v := .ref (h 0)) (C := RX12) (T := TX12) (N := 31) hx hb hts hin hown hK hP 0 rfl rfl 0 (by decide) w7 (fun _ h9 => h9) rfl dX12_matched_45 ?_
      refine lv_iconst (v := 0) hx hb dX12_matched_48 (by decide) ?_
      refine k_iald (f := (ms_a S_7)) (j := 0) hx hb hK hP 1 0 rfl rfl (by decide +kernel) rfl dX12_matched_49 ?_
      exact J_50 x1 ((ms_a S_7) 0) S_7 _ _ _ hw hP hD hS (lv_sub hl [0, 1] rfl)
    · have hw := hc_8f c_8
      clear hc_8t hc_8f
      refine lv_aload_n hx hb dX12_matched_35 rfl (lv_at hl 0 rfl) ?_
      refine va_get (D := D) (ci := 11) (v := .ref (h 0)) (C := RX12) (T := TX12) (N := 31) hx hb hts hin hown hK hP 0 rfl rfl 0 (by decide) w7 (fun _ h9 => h9) rfl dX12_matched_36 ?_
      refine lv_iconst (v := 1) hx hb dX12_matched_39 (by decide) ?_
      refine k_iald (f := (ms_a S_7)) (j := 1) hx hb hK hP 1 0 rfl rfl (by decide +kernel) rfl dX12_matched_40 ?_
      refine lv_goto (tgt := 50) hx hb dX12_matched_41 (by decide) ?_
      exact J_50 x1 ((ms_a S_7) 1) S_7 _ _ _ hw hP hD hS (lv_sub hl [0, 1] rfl)
  refine lv_iload_n hx hb dX12_matched_0 rfl (lv_at hl 1 rfl) ?_
  refine lv_iconst (v := (-1)) hx hb dX12_matched_1 (by decide) ?_
  obtain ⟨hc_9t, hc_9f⟩ := hw
  refine lv_icmp_eq (tgt := 16) hx hb dX12_matched_2 (by decide) (fun c_9 => ?_) (fun c_9 => ?_)
  · have hw := hc_9t c_9
    clear hc_9t hc_9f
    exact J_16 p1 S _ _ _ hw hP hD hS (lv_sub hl [0, 1] rfl)
  · have hw := hc_9f c_9
    clear hc_9t hc_9f
    refine lv_aload_n hx hb dX12_matched_5 rfl (lv_at hl 0 rfl) ?_
    refine lv_iload_n hx hb dX12_matched_6 rfl (lv_at hl 1 rfl) ?_
    refine k_callVi (As := [.int p1]) (rest := []) ⟨hx, hb, hml, hown, hts⟩ (cM_isClown l D h cy _ _ _ hw) (cwV 1 hts gX12_matched_X12_isClown rfl rfl rfl (by decide +kernel) ⟨Nat.le_of_ble_eq_true rfl, Nat.le_of_ble_eq_true rfl⟩) (va_recv hK hP (ci := 11) (q0 := 0) rfl rfl) hK hP hD hS hA rfl hl.1 rfl (Nat.le_of_ble_eq_true rfl) dX12_matched_7 ⟨Nat.zero_le _, Nat.zero_le _⟩ (fun r_10 S_11 H locs hw hP hD hS => ?_)
    obtain ⟨hc_12t, hc_12f⟩ := hw
    refine lv_if_ne (tgt := 16) hx hb dX12_matched_10 (by decide) (fun c_12 => ?_) (fun c_12 => ?_)
    · have hw := hc_12f c_12
      clear hc_12t hc_12f
      exact J_16 p1 S_11 _ _ _ hw hP hD hS (lv_sub hl [0, 1] rfl)
    · have hw := hc_12t c_12
      clear hc_12t hc_12f
      refine lv_bipush (v := (-2)) hx hb dX12_matched_13 (by decide) ?_
      exact W.iret (v := (-2)) hx hb hr (fun t ht hW => ⟨⟨(-2), S_11, rfl, hw, by rw [ht]; exact hP, va_K.moved hW.alike hK, hD⟩, hS.F ht⟩) hS.2.2 dX12_matched_15
def wM_bore_83 (post : Int32 → MS → Prop) (t1 : Int32) (t2 : Int32) (S : MS) : Prop := (vp_in t1 2454 ∧ ∀ S_1 : MS, S_1 = (ms_set_a S (upd (ms_a S) (t1.toNatClampNeg) t2)) → (∀ S_2 : MS, S_2 = (ms_set_a S_1 (upd (ms_a S_1) 5 (((ms_a S_1) 5) + 1))) → post ((ms_a S_2) 5) S_2))
def wM_bore (p1 : Int32) (p2 : Int32) (S : MS) (post : Int32 → MS → Prop) : Prop := ((p1 = (-1) → (∀ S_9 : MS, S_9 = (ms_set_a S (upd (ms_a S) 5 0)) → post 0 S_9)) ∧ (¬ (p1 = (-1)) → wM_isIn p1 0 99 S (fun r_2 S_3 => ((r_2 = 0 → post (-2) S_3) ∧ (¬ (r_2 = 0) → ((((ms_a S_3) 5) = 8 → post (-2) S_3) ∧ (¬ (((ms_a S_3) 5) = 8) → (vp_in (151 + (2 * ((ms_a S_3) 5))) 2454 ∧ ∀ S_6 : MS, S_6 = (ms_set_a S_3 (upd (ms_a S_3) ((151 + (2 * ((ms_a S_3) 5))).toNatClampNeg) p1)) → ((p2 = 0 → wM_bore_83 post ((151 + (2 * ((ms_a S_6) 5))) + 1) 0 S_6) ∧ (¬ (p2 = 0) → wM_bore_83 post ((151 + (2 * ((ms_a S_6) 5))) + 1) 1 S_6))))))))))
set_option maxHeartbeats 4000000 in
set_option maxRecDepth 100000 in
theorem cM_bore (l : Launch) (D : va_G) (h : Nat → Nat) (cy : Nat → ClassId) (p1 : Int32) (p2 : Int32) (S : MS) (post : Int32 → MS → Prop) (hw : wM_bore p1 p2 S post) : k_Mi l yX12_bore wsX12_bore { frames := 1, cells := 0, slots := 0, locals := 22 } D (tyM cy) (wM h cy) [.ref (h 31), .int p1, .int p2] S post := by
  intro sz
  refine Met.ofW (cc := cX12_bore) (maxL := 3) (ret := (some .int)) (by decide) rfl ?_
  intro p e s m args below meth c s₁ B hml hv
  obtain ⟨rfl, hsz, hP, hK, hD0⟩ := hv
  have hx := B.exec
  have hb := B.bytes
  have hr := B.returns
  have hts := atoms_spec (ws := wsX12_bore) B.pre
  have hown : s.vm.findClass RX12 = some m.cls := findClass_of_methodNamed B.named
  have hlocks := B.notSynchronized
  subst hsz
  have hD := hD0.self (sz := s.heap.size)
  generalize hAe : va_A (wM h cy S) s.heap.size = A at hD ⊢
  have hA : ∀ q : Nat, s.heap.size ≤ q → A q := fun q h => by rw [← hAe]; exact Or.inr h
  have hS : va_S A s.heap s.heap [] := va_S.rf
  have hin : ∀ w ∈ wsX120, w ∈ wsX12_bore := fun _ h => List.mem_cons_of_mem _ (List.mem_append_right _ h)
  have w7 := hts (.fieldLink RX12 7 "ClownsMournModel" "a" "[I") (List.mem_of_getElem? (i := 1) rfl)
  have hl := lv_entry ([.ref (h 31), .int p1, .int p2]) (n := 3) (Nat.le_of_ble_eq_true rfl)
  rw [lg_entry_eq]
  generalize (lg_sl ([.ref (h 31), .int p1, .int p2]) ++ List.replicate (3 - (lg_sl ([.ref (h 31), .int p1, .int p2])).length) Slot.unset).toArray = ls at hl ⊢
  have hl : lv_has ls 3 [(0, .ref (h 31)), (1, .int p1), (2, .int p2)] := hl
  unfold wM_bore at hw
  clear hD0
  have J_83 : ∀ (t1 : Int32) (t2 : Int32) (S : MS) (H : Heap) (locs : List Loc) (ls : Array Slot), wM_bore_83 post t1 t2 S → va_P D vwCl (wM h cy S) H → va_D A (wM h cy S) → va_S A s.heap H locs → lv_has ls 3 [(0, .ref (h 31))] → W p l e (headSpec wsX12_bore { frames := 1, cells := 0, slots := 0, locals := 22 }).room s m (([.ref (h 31), .int p1, .int p2] : List Value).toArray) below meth c H locs 0 0 (MQ below (va_Qi post (k_Post D (tyM cy) (wM h cy) A) A) (([.ref (h 31), .int p1, .int p2] : List Value).toArray) s 0 0 A) (F0 m 83 ls [.int t2, .int t1, .ref (h 0)]) := by
    intro t1 t2 S H locs ls hw hP hD hS hl
    unfold wM_bore_83 at hw
    obtain ⟨hi_3, hw⟩ := hw
    refine va_iast (f := (ms_a S)) hx hb hK hP hD hS 1 0 rfl rfl hi_3 dX12_bore_83 (fun H locs hP hD hS => ?_)
    obtain ⟨S_1, eS_1⟩ : ∃ z : MS, z = (ms_set_a S (upd (ms_a S) (t1.toNatClampNeg) t2)) := ⟨_, rfl⟩
    have hw := hw S_1 eS_1
    have hP : va_P D vwCl (wM h cy S_1) H := by rw [eS_1, ← wMs_a]; exact hP
    have hD : va_D A (wM h cy S_1) := by rw [eS_1, ← wMs_a]; exact hD
    refine lv_aload_n hx hb dX12_bore_84 rfl (lv_at hl 0 rfl) ?_
    refine va_get (D := D) (ci := 11) (v := .ref (h 0)) (C := RX12) (T := TX12) (N := 31) hx hb hts hin hown hK hP 0 rfl rfl 0 (by decide) w7 (fun _ h9 => h9) rfl dX12_bore_85 ?_
    refine lv_iconst (v := 5) hx hb dX12_bore_88 (by decide) ?_
    refine lv_dup2_11 hx hb dX12_bore_89 rfl rfl ?_
    refine k_iald (f := (ms_a S_1)) (j := 5) hx hb hK hP 1 0 rfl rfl (by decide +kernel) rfl dX12_bore_90 ?_
    refine lv_iconst (v := 1) hx hb dX12_bore_91 (by decide) ?_
    refine lv_iadd hx hb dX12_bore_92 ?_
    refine k_iast (f := (ms_a S_1)) (j := 5) hx hb hK hP hD hS 1 0 rfl rfl (by decide +kernel) rfl dX12_bore_93 (fun H locs hP hD hS => ?_)
    obtain ⟨S_2, eS_2⟩ : ∃ z : MS, z = (ms_set_a S_1 (upd (ms_a S_1) 5 (((ms_a S_1) 5) + 1))) := ⟨_, rfl⟩
    have hw := hw S_2 eS_2
    have hP : va_P D vwCl (wM h cy S_2) H := by rw [eS_2, ← wMs_a]; exact hP
    have hD : va_D A (wM h cy S_2) := by rw [eS_2, ← wMs_a]; exact hD
    refine lv_aload_n hx hb dX12_bore_94 rfl (lv_at hl 0 rfl) ?_
    refine va_get (D := D) (ci := 11) (v := .ref (h 0)) (C := RX12) (T := TX12) (N := 31) hx hb hts hin hown hK hP 0 rfl rfl 0 (by decide) w7 (fun _ h9 => h9) rfl dX12_bore_95 ?_
    refine lv_iconst (v := 5) hx hb dX12_bore_98 (by decide) ?_
    refine k_iald (f := (ms_a S_2)) (j := 5) hx hb hK hP 1 0 rfl rfl (by decide +kernel) rfl dX12_bore_99 ?_
    exact W.iret (v := (ms_a S_2) 5) hx hb hr (fun t ht hW => ⟨⟨(ms_a S_2) 5, S_2, rfl, hw, by rw [ht]; exact hP, va_K.moved hW.alike hK, hD⟩, hS.F ht⟩) hS.2.2 dX12_bore_100
  refine lv_iload_n hx hb dX12_bore_0 rfl (lv_at hl 1 rfl) ?_
  refine lv_iconst (v := (-1)) hx hb dX12_bore_1 (by decide) ?_
  obtain ⟨hc_4t, hc_4f⟩ := hw
  refine lv_icmp_ne (tgt := 14) hx hb dX12_bore_2 (by decide) (fun c_4 => ?_) (fun c_4 => ?_)
  · have hw := hc_4f c_4
    clear hc_4t hc_4f
    refine lv_iload_n hx hb dX12_bore_14 rfl (lv_at hl 1 rfl) ?_
    refine lv_iconst (v := 0) hx hb dX12_bore_15 (by decide) ?_
    refine lv_bipush (v := 99) hx hb dX12_bore_16 (by decide) ?_
    refine k_callSi (As := [.int p1, .int 0, .int 99]) (rest := []) ⟨hx, hb, hml, hown, hts⟩ (cM_isIn l D h cy _ _ _ _ _ hw) (va_cwS 3 hts gX12_bore_X12_isIn rfl rfl rfl (by decide +kernel) ⟨Nat.le_of_ble_eq_true rfl, Nat.le_of_ble_eq_true rfl⟩) hK hP hD hS hA rfl hl.1 rfl (Nat.le_of_ble_eq_true rfl) dX12_bore_18 ⟨Nat.zero_le _, Nat.zero_le _⟩ (fun r_5 S_6 H locs hw hP hD hS => ?_)
    obtain ⟨hc_7t, hc_7f⟩ := hw
    refine lv_if_eq (tgt := 35) hx hb dX12_bore_21 (by decide) (fun c_7 => ?_) (fun c_7 => ?_)
    · have hw := hc_7t c_7
      clear hc_7t hc_7f
      refine lv_bipush (v := (-2)) hx hb dX12_bore_35 (by decide) ?_
      exact W.iret (v := (-2)) hx hb hr (fun t ht hW => ⟨⟨(-2), S_6, rfl, hw, by rw [ht]; exact hP, va_K.moved hW.alike hK, hD⟩, hS.F ht⟩) hS.2.2 dX12_bore_37
    · have hw := hc_7f c_7
      clear hc_7t hc_7f
      refine lv_aload_n hx hb dX12_bore_24 rfl (lv_at hl 0 rfl) ?_
      refine va_get (D := D) (ci := 11) (v := .ref (h 0)) (C := RX12) (T := TX12) (N := 31) hx hb hts hin hown hK hP 0 rfl rfl 0 (by decide) w7 (fun _ h9 => h9) rfl dX12_bore_25 ?_
      refine lv_iconst (v := 5) hx hb dX12_bore_28 (by decide) ?_
      refine k_iald (f := (ms_a S_6)) (j := 5) hx hb hK hP 1 0 rfl rfl (by decide +kernel) rfl dX12_bore_29 ?_
      refine lv_bipush (v := 8) hx hb dX12_bore_30 (by decide) ?_
      obtain ⟨hc_8t, hc_8f⟩ := hw
      refine lv_icmp_ne (tgt := 38) hx hb dX12_bore_32 (by decide) (fun c_8 => ?_) (fun c_8 => ?_)
      · have hw := hc_8f c_8
        clear hc_8t hc_8f
        refine lv_aload_n hx hb dX12_bore_38 rfl (lv_at hl 0 rfl) ?_
        refine va_get (D := D) (ci := 11) (v := .ref (h 0)) (C := RX12) (T := TX12) (N := 31) hx hb hts hin hown hK hP 0 rfl rfl 0 (by decide) w7 (fun _ h9 => h9) rfl dX12_bore_39 ?_
        refine lv_sipush (v := 151) hx hb dX12_bore_42 (by decide) ?_
        refine lv_iconst (v := 2) hx hb dX12_bore_45 (by decide) ?_
        refine lv_aload_n hx hb dX12_bore_46 rfl (lv_at hl 0 rfl) ?_
        refine va_get (D := D) (ci := 11) (v := .ref (h 0)) (C := RX12) (T := TX12) (N := 31) hx hb hts hin hown hK hP 0 rfl rfl 0 (by decide) w7 (fun _ h9 => h9) rfl dX12_bore_47 ?_
        refine lv_iconst (v := 5) hx hb dX12_bore_50 (by decide) ?_
        refine k_iald (f := (ms_a S_6)) (j := 5) hx hb hK hP 1 0 rfl rfl (by decide +kernel) rfl dX12_bore_51 ?_
        refine lv_imul hx hb dX12_bore_52 ?_
        refine lv_iadd hx hb dX12_bore_53 ?_
        refine lv_iload_n hx hb dX12_bore_54 rfl (lv_at hl 1 rfl) ?_
        obtain ⟨hi_11, hw⟩ := hw
        refine va_iast (f := (ms_a S_6)) hx hb hK hP hD hS 1 0 rfl rfl hi_11 dX12_bore_55 (fun H locs hP hD hS => ?_)
        obtain ⟨S_9, eS_9⟩ : ∃ z : MS, z = (ms_set_a S_6 (upd (ms_a S_6) ((151 + (2 * ((ms_a S_6) 5))).toNatClampNeg) p1)) := ⟨_, rfl⟩
        have hw := hw S_9 eS_9
        have hP : va_P D vwCl (wM h cy S_9) H := by rw [eS_9, ← wMs_a]; exact hP
        have hD : va_D A (wM h cy S_9) := by rw [eS_9, ← wMs_a]; exact hD
        refine lv_aload_n hx hb dX12_bore_56 rfl (lv_at hl 0 rfl) ?_
        refine va_get (D := D) (ci := 11) (v := .ref (h 0)) (C := RX12) (T := TX12) (N := 31) hx hb hts hin hown hK hP 0 rfl rfl 0 (by decide) w7 (fun _ h9 => h9) rfl dX12_bore_57 ?_
        refine lv_sipush (v := 151) hx hb dX12_bore_60 (by decide) ?_
        refine lv_iconst (v := 2) hx hb dX12_bore_63 (by decide) ?_
        refine lv_aload_n hx hb dX12_bore_64 rfl (lv_at hl 0 rfl) ?_
        refine va_get (D := D) (ci := 11) (v := .ref (h 0)) (C := RX12) (T := TX12) (N := 31) hx hb hts hin hown hK hP 0 rfl rfl 0 (by decide) w7 (fun _ h9 => h9) rfl dX12_bore_65 ?_
        refine lv_iconst (v := 5) hx hb dX12_bore_68 (by decide) ?_
        refine k_iald (f := (ms_a S_9)) (j := 5) hx hb hK hP 1 0 rfl rfl (by decide +kernel) rfl dX12_bore_69 ?_
        refine lv_imul hx hb dX12_bore_70 ?_
        refine lv_iadd hx hb dX12_bore_71 ?_
        refine lv_iconst (v := 1) hx hb dX12_bore_72 (by decide) ?_
        refine lv_iadd hx hb dX12_bore_73 ?_
        refine lv_iload_n hx hb dX12_bore_74 rfl (lv_at hl 2 rfl) ?_
        obtain ⟨hc_10t, hc_10f⟩ := hw
        refine lv_if_eq (tgt := 82) hx hb dX12_bore_75 (by decide) (fun c_10 => ?_) (fun c_10 => ?_)
        · have hw := hc_10t c_10
          clear hc_10t hc_10f
          refine lv_iconst (v := 0) hx hb dX12_bore_82 (by decide) ?_
          exact J_83 ((151 + (2 * ((ms_a S_9) 5))) + 1) 0 S_9 _ _ _ hw hP hD hS (lv_sub hl [0] rfl)
        · have hw := hc_10f c_10
          clear hc_10t hc_10f
          refine lv_iconst (v := 1) hx hb dX12_bore_78 (by decide) ?_
          refine lv_goto (tgt := 83) hx hb dX12_bore_79 (by decide) ?_
          exact J_83 ((151 + (2 * ((ms_a S_9) 5))) + 1) 1 S_9 _ _ _ hw hP hD hS (lv_sub hl [0] rfl)
      · have hw := hc_8t c_8
        clear hc_8t hc_8f
        refine lv_bipush (v := (-2)) hx hb dX12_bore_35 (by decide) ?_
        exact W.iret (v := (-2)) hx hb hr (fun t ht hW => ⟨⟨(-2), S_6, rfl, hw, by rw [ht]; exact hP, va_K.moved hW.alike hK, hD⟩, hS.F ht⟩) hS.2.2 dX12_bore_37
  · have hw := hc_4t c_4
    clear hc_4t hc_4f
    refine lv_aload_n hx hb dX12_bore_5 rfl (lv_at hl 0 rfl) ?_
    refine va_get (D := D) (ci := 11) (v := .ref (h 0)) (C := RX12) (T := TX12) (N := 31) hx hb hts hin hown hK hP 0 rfl rfl 0 (by decide) w7 (fun _ h9 => h9) rfl dX12_bore_6 ?_
    refine lv_iconst (v := 5) hx hb dX12_bore_9 (by decide) ?_
    refine lv_iconst (v := 0) hx hb dX12_bore_10 (by decide) ?_
    refine k_iast (f := (ms_a S)) (j := 5) hx hb hK hP hD hS 1 0 rfl rfl (by decide +kernel) rfl dX12_bore_11 (fun H locs hP hD hS => ?_)
    obtain ⟨S_12, eS_12⟩ : ∃ z : MS, z = (ms_set_a S (upd (ms_a S) 5 0)) := ⟨_, rfl⟩
    have hw := hw S_12 eS_12
    have hP : va_P D vwCl (wM h cy S_12) H := by rw [eS_12, ← wMs_a]; exact hP
    have hD : va_D A (wM h cy S_12) := by rw [eS_12, ← wMs_a]; exact hD
    refine lv_iconst (v := 0) hx hb dX12_bore_12 (by decide) ?_
    exact W.iret (v := 0) hx hb hr (fun t ht hW => ⟨⟨0, S_12, rfl, hw, by rw [ht]; exact hP, va_K.moved hW.alike hK, hD⟩, hS.F ht⟩) hS.2.2 dX12_bore_13
def wM_errorsBy_59 (post : Int32 → MS → Prop) (K4 : Int32 → Int32 → Int32 → MS → Prop) (x1 : Int32) (x3 : Int32) (t0 : Int32) (t1 : Int32) (t2 : Int32) (S : MS) : Prop := ((t1 = t2 → K4 x1 (t0 + 0) (x3 + 1) S) ∧ (¬ (t1 = t2) → K4 x1 (t0 + 1) (x3 + 1) S))
def wM_errorsBy_36 (post : Int32 → MS → Prop) (K4 : Int32 → Int32 → Int32 → MS → Prop) (x1 : Int32) (x3 : Int32) (t0 : Int32) (t1 : Int32) (S : MS) : Prop := (vp_in ((151 + (2 * x3)) + 1) 2454 ∧ ((((ms_a S) ((151 + (2 * x3)) + 1).toNatClampNeg) = 1 → wM_errorsBy_59 post K4 x1 x3 t0 t1 1 S) ∧ (¬ (((ms_a S) ((151 + (2 * x3)) + 1).toNatClampNeg) = 1) → wM_errorsBy_59 post K4 x1 x3 t0 t1 0 S)))
def wM_errorsBy_4 (post : Int32 → MS → Prop) : Nat → Int32 → Int32 → Int32 → MS → Prop
  | 0, _, _, _, _ => False
  | n + 1, x1, x2, x3, S => ((((ms_a S) 5) ≤ x3 → post x2 S) ∧ (¬ (((ms_a S) 5) ≤ x3) → (vp_in (151 + (2 * x3)) 2454 ∧ ((x1 ≤ ((ms_a S) (151 + (2 * x3)).toNatClampNeg) → wM_errorsBy_36 post (wM_errorsBy_4 post n) x1 x3 x2 0 S) ∧ (¬ (x1 ≤ ((ms_a S) (151 + (2 * x3)).toNatClampNeg)) → wM_errorsBy_36 post (wM_errorsBy_4 post n) x1 x3 x2 1 S)))))
def wM_errorsBy (p1 : Int32) (S : MS) (post : Int32 → MS → Prop) : Prop := ∃ k_ : Nat, wM_errorsBy_4 post k_ p1 0 0 S
set_option maxHeartbeats 4000000 in
set_option maxRecDepth 100000 in
theorem cM_errorsBy (l : Launch) (D : va_G) (h : Nat → Nat) (cy : Nat → ClassId) (p1 : Int32) (S : MS) (post : Int32 → MS → Prop) (hw : wM_errorsBy p1 S post) : k_Mi l yX12_errorsBy wsX12_errorsBy { frames := 0, cells := 0, slots := 0, locals := 0 } D (tyM cy) (wM h cy) [.ref (h 31), .int p1] S post := by
  intro sz
  refine Met.ofW (cc := cX12_errorsBy) (maxL := 4) (ret := (some .int)) (by decide) rfl ?_
  intro p e s m args below meth c s₁ B hml hv
  obtain ⟨rfl, hsz, hP, hK, hD0⟩ := hv
  have hx := B.exec
  have hb := B.bytes
  have hr := B.returns
  have hts := atoms_spec (ws := wsX12_errorsBy) B.pre
  have hown : s.vm.findClass RX12 = some m.cls := findClass_of_methodNamed B.named
  have hlocks := B.notSynchronized
  subst hsz
  have hD := hD0.self (sz := s.heap.size)
  generalize hAe : va_A (wM h cy S) s.heap.size = A at hD ⊢
  have hA : ∀ q : Nat, s.heap.size ≤ q → A q := fun q h => by rw [← hAe]; exact Or.inr h
  have hS : va_S A s.heap s.heap [] := va_S.rf
  have hin : ∀ w ∈ wsX120, w ∈ wsX12_errorsBy := fun _ h => List.mem_cons_of_mem _ (List.mem_append_right _ h)
  have w7 := hts (.fieldLink RX12 7 "ClownsMournModel" "a" "[I") (List.mem_of_getElem? (i := 1) rfl)
  have hl := lv_entry ([.ref (h 31), .int p1]) (n := 4) (Nat.le_of_ble_eq_true rfl)
  rw [lg_entry_eq]
  generalize (lg_sl ([.ref (h 31), .int p1]) ++ List.replicate (4 - (lg_sl ([.ref (h 31), .int p1])).length) Slot.unset).toArray = ls at hl ⊢
  have hl : lv_has ls 4 [(0, .ref (h 31)), (1, .int p1)] := hl
  unfold wM_errorsBy at hw
  clear hD0
  have L_4 : ∀ (n4 : Nat) (x1 : Int32) (x2 : Int32) (x3 : Int32) (S : MS) (H : Heap) (locs : List Loc) (ls : Array Slot), wM_errorsBy_4 post n4 x1 x2 x3 S → va_P D vwCl (wM h cy S) H → va_D A (wM h cy S) → va_S A s.heap H locs → lv_has ls 4 [(0, .ref (h 31)), (1, .int x1), (2, .int x2), (3, .int x3)] → W p l e (headSpec wsX12_errorsBy { frames := 0, cells := 0, slots := 0, locals := 0 }).room s m (([.ref (h 31), .int p1] : List Value).toArray) below meth c H locs 0 0 (MQ below (va_Qi post (k_Post D (tyM cy) (wM h cy) A) A) (([.ref (h 31), .int p1] : List Value).toArray) s 0 0 A) (F0 m 4 ls []) := by
    intro n4
    induction n4 with
    | zero => intro x1 x2 x3 S H locs ls hw; exact False.elim hw
    | succ n4 ih_4 =>
      have J_59 : ∀ (x1 : Int32) (x3 : Int32) (t0 : Int32) (t1 : Int32) (t2 : Int32) (S : MS) (H : Heap) (locs : List Loc) (ls : Array Slot), wM_errorsBy_59 post (wM_errorsBy_4 post n4) x1 x3 t0 t1 t2 S → va_P D vwCl (wM h cy S) H → va_D A (wM h cy S) → va_S A s.heap H locs → lv_has ls 4 [(0, .ref (h 31)), (1, .int x1), (3, .int x3)] → W p l e (headSpec wsX12_errorsBy { frames := 0, cells := 0, slots := 0, locals := 0 }).room s m (([.ref (h 31), .int p1] : List Value).toArray) below meth c H locs 0 0 (MQ below (va_Qi post (k_Post D (tyM cy) (wM h cy) A) A) (([.ref (h 31), .int p1] : List Value).toArray) s 0 0 A) (F0 m 59 ls [.int t2, .int t1, .int t0]) := by
        intro x1 x3 t0 t1 t2 S H locs ls hw hP hD hS hl
        unfold wM_errorsBy_59 at hw
        obtain ⟨hc_1t, hc_1f⟩ := hw
        refine lv_icmp_eq (tgt := 66) hx hb dX12_errorsBy_59 (by decide) (fun c_1 => ?_) (fun c_1 => ?_)
        · have hw := hc_1t c_1
          clear hc_1t hc_1f
          refine lv_iconst (v := 0) hx hb dX12_errorsBy_66 (by decide) ?_
          refine lv_iadd hx hb dX12_errorsBy_67 ?_
          refine lv_istore_n (lv' := [(2, .int (t0 + 0)), (0, .ref (h 31)), (1, .int x1), (3, .int x3)]) hx hb dX12_errorsBy_68 rfl hl (by decide) rfl (fun ls hl => ?_)
          refine lv_iinc (v := x3 + 1) (lv' := [(3, .int (x3 + 1)), (2, .int (t0 + 0)), (0, .ref (h 31)), (1, .int x1)]) hx hb dX12_errorsBy_69 hl (k := 3) rfl (k_inc (by decide)) (by decide) rfl (fun ls hl => ?_)
          refine lv_goto (tgt := 4) hx hb dX12_errorsBy_72 (by decide) ?_
          exact ih_4 x1 (t0 + 0) (x3 + 1) S _ _ _ hw hP hD hS (lv_sub hl [2, 3, 1, 0] rfl)
        · have hw := hc_1f c_1
          clear hc_1t hc_1f
          refine lv_iconst (v := 1) hx hb dX12_errorsBy_62 (by decide) ?_
          refine lv_goto (tgt := 67) hx hb dX12_errorsBy_63 (by decide) ?_
          refine lv_iadd hx hb dX12_errorsBy_67 ?_
          refine lv_istore_n (lv' := [(2, .int (t0 + 1)), (0, .ref (h 31)), (1, .int x1), (3, .int x3)]) hx hb dX12_errorsBy_68 rfl hl (by decide) rfl (fun ls hl => ?_)
          refine lv_iinc (v := x3 + 1) (lv' := [(3, .int (x3 + 1)), (2, .int (t0 + 1)), (0, .ref (h 31)), (1, .int x1)]) hx hb dX12_errorsBy_69 hl (k := 3) rfl (k_inc (by decide)) (by decide) rfl (fun ls hl => ?_)
          refine lv_goto (tgt := 4) hx hb dX12_errorsBy_72 (by decide) ?_
          exact ih_4 x1 (t0 + 1) (x3 + 1) S _ _ _ hw hP hD hS (lv_sub hl [2, 3, 1, 0] rfl)
      have J_36 : ∀ (x1 : Int32) (x3 : Int32) (t0 : Int32) (t1 : Int32) (S : MS) (H : Heap) (locs : List Loc) (ls : Array Slot), wM_errorsBy_36 post (wM_errorsBy_4 post n4) x1 x3 t0 t1 S → va_P D vwCl (wM h cy S) H → va_D A (wM h cy S) → va_S A s.heap H locs → lv_has ls 4 [(0, .ref (h 31)), (1, .int x1), (3, .int x3)] → W p l e (headSpec wsX12_errorsBy { frames := 0, cells := 0, slots := 0, locals := 0 }).room s m (([.ref (h 31), .int p1] : List Value).toArray) below meth c H locs 0 0 (MQ below (va_Qi post (k_Post D (tyM cy) (wM h cy) A) A) (([.ref (h 31), .int p1] : List Value).toArray) s 0 0 A) (F0 m 36 ls [.int t1, .int t0]) := by
        intro x1 x3 t0 t1 S H locs ls hw hP hD hS hl
        unfold wM_errorsBy_36 at hw
        refine lv_aload_n hx hb dX12_errorsBy_36 rfl (lv_at hl 0 rfl) ?_
        refine va_get (D := D) (ci := 11) (v := .ref (h 0)) (C := RX12) (T := TX12) (N := 31) hx hb hts hin hown hK hP 0 rfl rfl 0 (by decide) w7 (fun _ h9 => h9) rfl dX12_errorsBy_37 ?_
        refine lv_sipush (v := 151) hx hb dX12_errorsBy_40 (by decide) ?_
        refine lv_iconst (v := 2) hx hb dX12_errorsBy_43 (by decide) ?_
        refine lv_iload_n hx hb dX12_errorsBy_44 rfl (lv_at hl 2 rfl) ?_
        refine lv_imul hx hb dX12_errorsBy_45 ?_
        refine lv_iadd hx hb dX12_errorsBy_46 ?_
        refine lv_iconst (v := 1) hx hb dX12_errorsBy_47 (by decide) ?_
        refine lv_iadd hx hb dX12_errorsBy_48 ?_
        obtain ⟨hi_3, hw⟩ := hw
        refine va_iald (f := (ms_a S)) hx hb hK hP 1 0 rfl rfl hi_3 dX12_errorsBy_49 ?_
        refine lv_iconst (v := 1) hx hb dX12_errorsBy_50 (by decide) ?_
        obtain ⟨hc_2t, hc_2f⟩ := hw
        refine lv_icmp_ne (tgt := 58) hx hb dX12_errorsBy_51 (by decide) (fun c_2 => ?_) (fun c_2 => ?_)
        · have hw := hc_2f c_2
          clear hc_2t hc_2f
          refine lv_iconst (v := 0) hx hb dX12_errorsBy_58 (by decide) ?_
          exact J_59 x1 x3 t0 t1 0 S _ _ _ hw hP hD hS (lv_sub hl [0, 1, 2] rfl)
        · have hw := hc_2t c_2
          clear hc_2t hc_2f
          refine lv_iconst (v := 1) hx hb dX12_errorsBy_54 (by decide) ?_
          refine lv_goto (tgt := 59) hx hb dX12_errorsBy_55 (by decide) ?_
          exact J_59 x1 x3 t0 t1 1 S _ _ _ hw hP hD hS (lv_sub hl [0, 1, 2] rfl)
      intro x1 x2 x3 S H locs ls hw hP hD hS hl
      unfold wM_errorsBy_4 at hw
      refine lv_iload_n hx hb dX12_errorsBy_4 rfl (lv_at hl 3 rfl) ?_
      refine lv_aload_n hx hb dX12_errorsBy_5 rfl (lv_at hl 0 rfl) ?_
      refine va_get (D := D) (ci := 11) (v := .ref (h 0)) (C := RX12) (T := TX12) (N := 31) hx hb hts hin hown hK hP 0 rfl rfl 0 (by decide) w7 (fun _ h9 => h9) rfl dX12_errorsBy_6 ?_
      refine lv_iconst (v := 5) hx hb dX12_errorsBy_9 (by decide) ?_
      refine k_iald (f := (ms_a S)) (j := 5) hx hb hK hP 1 0 rfl rfl (by decide +kernel) rfl dX12_errorsBy_10 ?_
      obtain ⟨hc_4t, hc_4f⟩ := hw
      refine lv_icmp_ge (tgt := 75) hx hb dX12_errorsBy_11 (by decide) (fun c_4 => ?_) (fun c_4 => ?_)
      · have hw := hc_4t c_4
        clear hc_4t hc_4f
        refine lv_iload_n hx hb dX12_errorsBy_75 rfl (lv_at hl 2 rfl) ?_
        exact W.iret (v := x2) hx hb hr (fun t ht hW => ⟨⟨x2, S, rfl, hw, by rw [ht]; exact hP, va_K.moved hW.alike hK, hD⟩, hS.F ht⟩) hS.2.2 dX12_errorsBy_76
      · have hw := hc_4f c_4
        clear hc_4t hc_4f
        refine lv_iload_n hx hb dX12_errorsBy_14 rfl (lv_at hl 2 rfl) ?_
        refine lv_aload_n hx hb dX12_errorsBy_15 rfl (lv_at hl 0 rfl) ?_
        refine va_get (D := D) (ci := 11) (v := .ref (h 0)) (C := RX12) (T := TX12) (N := 31) hx hb hts hin hown hK hP 0 rfl rfl 0 (by decide) w7 (fun _ h9 => h9) rfl dX12_errorsBy_16 ?_
        refine lv_sipush (v := 151) hx hb dX12_errorsBy_19 (by decide) ?_
        refine lv_iconst (v := 2) hx hb dX12_errorsBy_22 (by decide) ?_
        refine lv_iload_n hx hb dX12_errorsBy_23 rfl (lv_at hl 3 rfl) ?_
        refine lv_imul hx hb dX12_errorsBy_24 ?_
        refine lv_iadd hx hb dX12_errorsBy_25 ?_
        obtain ⟨hi_6, hw⟩ := hw
        refine va_iald (f := (ms_a S)) hx hb hK hP 1 0 rfl rfl hi_6 dX12_errorsBy_26 ?_
        refine lv_iload_n hx hb dX12_errorsBy_27 rfl (lv_at hl 1 rfl) ?_
        obtain ⟨hc_5t, hc_5f⟩ := hw
        refine lv_icmp_ge (tgt := 35) hx hb dX12_errorsBy_28 (by decide) (fun c_5 => ?_) (fun c_5 => ?_)
        · have hw := hc_5t c_5
          clear hc_5t hc_5f
          refine lv_iconst (v := 0) hx hb dX12_errorsBy_35 (by decide) ?_
          exact J_36 x1 x3 x2 0 S _ _ _ hw hP hD hS (lv_sub hl [0, 1, 3] rfl)
        · have hw := hc_5f c_5
          clear hc_5t hc_5f
          refine lv_iconst (v := 1) hx hb dX12_errorsBy_31 (by decide) ?_
          refine lv_goto (tgt := 36) hx hb dX12_errorsBy_32 (by decide) ?_
          exact J_36 x1 x3 x2 1 S _ _ _ hw hP hD hS (lv_sub hl [0, 1, 3] rfl)
  refine lv_iconst (v := 0) hx hb dX12_errorsBy_0 (by decide) ?_
  refine lv_istore_n (lv' := [(2, .int 0), (0, .ref (h 31)), (1, .int p1)]) hx hb dX12_errorsBy_1 rfl hl (by decide) rfl (fun ls hl => ?_)
  refine lv_iconst (v := 0) hx hb dX12_errorsBy_2 (by decide) ?_
  refine lv_istore_n (lv' := [(3, .int 0), (2, .int 0), (0, .ref (h 31)), (1, .int p1)]) hx hb dX12_errorsBy_3 rfl hl (by decide) rfl (fun ls hl => ?_)
  obtain ⟨n_4, hw⟩ := hw
  exact L_4 n_4 p1 0 0 S _ _ _ hw hP hD hS (lv_sub hl [2, 3, 1, 0] rfl)
def wM_leastErrors_8 (post : Int32 → MS → Prop) : Nat → Int32 → Int32 → MS → Prop
  | 0, _, _, _ => False
  | n + 1, x1, x2, S => ((100 < x2 → post x1 S) ∧ (¬ (100 < x2) → wM_errorsBy x2 S (fun r_2 S_3 => ((x1 ≤ r_2 → wM_leastErrors_8 post n x1 (x2 + 1) S_3) ∧ (¬ (x1 ≤ r_2) → wM_errorsBy x2 S_3 (fun r_5 S_6 => wM_leastErrors_8 post n r_5 (x2 + 1) S_6))))))
def wM_leastErrors (S : MS) (post : Int32 → MS → Prop) : Prop := wM_errorsBy 0 S (fun r_1 S_2 => ∃ k_ : Nat, wM_leastErrors_8 post k_ r_1 1 S_2)
set_option maxHeartbeats 4000000 in
set_option maxRecDepth 100000 in
theorem cM_leastErrors (l : Launch) (D : va_G) (h : Nat → Nat) (cy : Nat → ClassId) (S : MS) (post : Int32 → MS → Prop) (hw : wM_leastErrors S post) : k_Mi l yX12_leastErrors wsX12_leastErrors { frames := 1, cells := 0, slots := 0, locals := 23 } D (tyM cy) (wM h cy) [.ref (h 31)] S post := by
  intro sz
  refine Met.ofW (cc := cX12_leastErrors) (maxL := 3) (ret := (some .int)) (by decide) rfl ?_
  intro p e s m args below meth c s₁ B hml hv
  obtain ⟨rfl, hsz, hP, hK, hD0⟩ := hv
  have hx := B.exec
  have hb := B.bytes
  have hr := B.returns
  have hts := atoms_spec (ws := wsX12_leastErrors) B.pre
  have hown : s.vm.findClass RX12 = some m.cls := findClass_of_methodNamed B.named
  have hlocks := B.notSynchronized
  subst hsz
  have hD := hD0.self (sz := s.heap.size)
  generalize hAe : va_A (wM h cy S) s.heap.size = A at hD ⊢
  have hA : ∀ q : Nat, s.heap.size ≤ q → A q := fun q h => by rw [← hAe]; exact Or.inr h
  have hS : va_S A s.heap s.heap [] := va_S.rf
  have hl := lv_entry ([.ref (h 31)]) (n := 3) (Nat.le_of_ble_eq_true rfl)
  rw [lg_entry_eq]
  generalize (lg_sl ([.ref (h 31)]) ++ List.replicate (3 - (lg_sl ([.ref (h 31)])).length) Slot.unset).toArray = ls at hl ⊢
  have hl : lv_has ls 3 [(0, .ref (h 31))] := hl
  unfold wM_leastErrors at hw
  clear hD0
  have L_8 : ∀ (n8 : Nat) (x1 : Int32) (x2 : Int32) (S : MS) (H : Heap) (locs : List Loc) (ls : Array Slot), wM_leastErrors_8 post n8 x1 x2 S → va_P D vwCl (wM h cy S) H → va_D A (wM h cy S) → va_S A s.heap H locs → lv_has ls 3 [(0, .ref (h 31)), (1, .int x1), (2, .int x2)] → W p l e (headSpec wsX12_leastErrors { frames := 1, cells := 0, slots := 0, locals := 23 }).room s m (([.ref (h 31)] : List Value).toArray) below meth c H locs 0 0 (MQ below (va_Qi post (k_Post D (tyM cy) (wM h cy) A) A) (([.ref (h 31)] : List Value).toArray) s 0 0 A) (F0 m 8 ls []) := by
    intro n8
    induction n8 with
    | zero => intro x1 x2 S H locs ls hw; exact False.elim hw
    | succ n8 ih_8 =>
      intro x1 x2 S H locs ls hw hP hD hS hl
      unfold wM_leastErrors_8 at hw
      refine lv_iload_n hx hb dX12_leastErrors_8 rfl (lv_at hl 2 rfl) ?_
      refine lv_bipush (v := 100) hx hb dX12_leastErrors_9 (by decide) ?_
      obtain ⟨hc_1t, hc_1f⟩ := hw
      refine lv_icmp_gt (tgt := 35) hx hb dX12_leastErrors_11 (by decide) (fun c_1 => ?_) (fun c_1 => ?_)
      · have hw := hc_1t c_1
        clear hc_1t hc_1f
        refine lv_iload_n hx hb dX12_leastErrors_35 rfl (lv_at hl 1 rfl) ?_
        exact W.iret (v := x1) hx hb hr (fun t ht hW => ⟨⟨x1, S, rfl, hw, by rw [ht]; exact hP, va_K.moved hW.alike hK, hD⟩, hS.F ht⟩) hS.2.2 dX12_leastErrors_36
      · have hw := hc_1f c_1
        clear hc_1t hc_1f
        refine lv_aload_n hx hb dX12_leastErrors_14 rfl (lv_at hl 0 rfl) ?_
        refine lv_iload_n hx hb dX12_leastErrors_15 rfl (lv_at hl 2 rfl) ?_
        refine k_callVi (As := [.int x2]) (rest := []) ⟨hx, hb, hml, hown, hts⟩ (cM_errorsBy l D h cy _ _ _ hw) (cwV 1 hts gX12_leastErrors_X12_errorsBy rfl rfl rfl (by decide +kernel) ⟨Nat.le_of_ble_eq_true rfl, Nat.le_of_ble_eq_true rfl⟩) (va_recv hK hP (ci := 11) (q0 := 0) rfl rfl) hK hP hD hS hA rfl hl.1 rfl (Nat.le_of_ble_eq_true rfl) dX12_leastErrors_16 ⟨Nat.zero_le _, Nat.zero_le _⟩ (fun r_2 S_3 H locs hw hP hD hS => ?_)
        refine lv_iload_n hx hb dX12_leastErrors_19 rfl (lv_at hl 1 rfl) ?_
        obtain ⟨hc_4t, hc_4f⟩ := hw
        refine lv_icmp_ge (tgt := 29) hx hb dX12_leastErrors_20 (by decide) (fun c_4 => ?_) (fun c_4 => ?_)
        · have hw := hc_4t c_4
          clear hc_4t hc_4f
          refine lv_iinc (v := x2 + 1) (lv' := [(2, .int (x2 + 1)), (0, .ref (h 31)), (1, .int x1)]) hx hb dX12_leastErrors_29 hl (k := 2) rfl (k_inc (by decide)) (by decide) rfl (fun ls hl => ?_)
          refine lv_goto (tgt := 8) hx hb dX12_leastErrors_32 (by decide) ?_
          exact ih_8 x1 (x2 + 1) S_3 _ _ _ hw hP hD hS (lv_sub hl [1, 2, 0] rfl)
        · have hw := hc_4f c_4
          clear hc_4t hc_4f
          refine lv_aload_n hx hb dX12_leastErrors_23 rfl (lv_at hl 0 rfl) ?_
          refine lv_iload_n hx hb dX12_leastErrors_24 rfl (lv_at hl 2 rfl) ?_
          refine k_callVi (As := [.int x2]) (rest := []) ⟨hx, hb, hml, hown, hts⟩ (cM_errorsBy l D h cy _ _ _ hw) (cwV 1 hts gX12_leastErrors_X12_errorsBy rfl rfl rfl (by decide +kernel) ⟨Nat.le_of_ble_eq_true rfl, Nat.le_of_ble_eq_true rfl⟩) (va_recv hK hP (ci := 11) (q0 := 0) rfl rfl) hK hP hD hS hA rfl hl.1 rfl (Nat.le_of_ble_eq_true rfl) dX12_leastErrors_25 ⟨Nat.zero_le _, Nat.zero_le _⟩ (fun r_5 S_6 H locs hw hP hD hS => ?_)
          refine lv_istore_n (lv' := [(1, .int r_5), (0, .ref (h 31)), (2, .int x2)]) hx hb dX12_leastErrors_28 rfl hl (by decide) rfl (fun ls hl => ?_)
          refine lv_iinc (v := x2 + 1) (lv' := [(2, .int (x2 + 1)), (1, .int r_5), (0, .ref (h 31))]) hx hb dX12_leastErrors_29 hl (k := 2) rfl (k_inc (by decide)) (by decide) rfl (fun ls hl => ?_)
          refine lv_goto (tgt := 8) hx hb dX12_leastErrors_32 (by decide) ?_
          exact ih_8 r_5 (x2 + 1) S_6 _ _ _ hw hP hD hS (lv_sub hl [2, 1, 0] rfl)
  refine lv_aload_n hx hb dX12_leastErrors_0 rfl (lv_at hl 0 rfl) ?_
  refine lv_iconst (v := 0) hx hb dX12_leastErrors_1 (by decide) ?_
  refine k_callVi (As := [.int 0]) (rest := []) ⟨hx, hb, hml, hown, hts⟩ (cM_errorsBy l D h cy _ _ _ hw) (cwV 1 hts gX12_leastErrors_X12_errorsBy rfl rfl rfl (by decide +kernel) ⟨Nat.le_of_ble_eq_true rfl, Nat.le_of_ble_eq_true rfl⟩) (va_recv hK hP (ci := 11) (q0 := 0) rfl rfl) hK hP hD hS hA rfl hl.1 rfl (Nat.le_of_ble_eq_true rfl) dX12_leastErrors_2 ⟨Nat.zero_le _, Nat.zero_le _⟩ (fun r_7 S_8 H locs hw hP hD hS => ?_)
  refine lv_istore_n (lv' := [(1, .int r_7), (0, .ref (h 31))]) hx hb dX12_leastErrors_5 rfl hl (by decide) rfl (fun ls hl => ?_)
  refine lv_iconst (v := 1) hx hb dX12_leastErrors_6 (by decide) ?_
  refine lv_istore_n (lv' := [(2, .int 1), (1, .int r_7), (0, .ref (h 31))]) hx hb dX12_leastErrors_7 rfl hl (by decide) rfl (fun ls hl => ?_)
  obtain ⟨n_8, hw⟩ := hw
  exact L_8 n_8 r_7 1 S_8 _ _ _ hw hP hD hS (lv_sub hl [2, 1, 0] rfl)
def wM_bears_25 (post : Int32 → MS → Prop) : Nat → Int32 → Int32 → Int32 → Int32 → Int32 → MS → Prop
  | 0, _, _, _, _, _, _ => False
  | n + 1, x1, x2, x3, x4, x5, S => ((100 < x5 → ((x1 = 0 → post x2 S) ∧ (¬ (x1 = 0) → ((x1 = 1 → post x3 S) ∧ (¬ (x1 = 1) → post x4 S))))) ∧ (¬ (100 < x5) → wM_errorsBy x5 S (fun r_4 S_5 => ((r_4 = x2 → ((x3 = (-1) → wM_bears_25 post n x1 x2 x5 x5 (x5 + 1) S_5) ∧ (¬ (x3 = (-1)) → wM_bears_25 post n x1 x2 x3 x5 (x5 + 1) S_5))) ∧ (¬ (r_4 = x2) → wM_bears_25 post n x1 x2 x3 x4 (x5 + 1) S_5)))))
def wM_bears (p1 : Int32) (S : MS) (post : Int32 → MS → Prop) : Prop := wM_isIn p1 0 2 S (fun r_1 S_2 => ((r_1 = 0 → post (-2) S_2) ∧ (¬ (r_1 = 0) → wM_leastErrors S_2 (fun r_4 S_5 => ∃ k_ : Nat, wM_bears_25 post k_ p1 r_4 (-1) (-1) 0 S_5))))
set_option maxHeartbeats 4000000 in
set_option maxRecDepth 100000 in
theorem cM_bears (l : Launch) (D : va_G) (h : Nat → Nat) (cy : Nat → ClassId) (p1 : Int32) (S : MS) (post : Int32 → MS → Prop) (hw : wM_bears p1 S post) : k_Mi l yX12_bears wsX12_bears { frames := 2, cells := 0, slots := 0, locals := 45 } D (tyM cy) (wM h cy) [.ref (h 31), .int p1] S post := by
  intro sz
  refine Met.ofW (cc := cX12_bears) (maxL := 6) (ret := (some .int)) (by decide) rfl ?_
  intro p e s m args below meth c s₁ B hml hv
  obtain ⟨rfl, hsz, hP, hK, hD0⟩ := hv
  have hx := B.exec
  have hb := B.bytes
  have hr := B.returns
  have hts := atoms_spec (ws := wsX12_bears) B.pre
  have hown : s.vm.findClass RX12 = some m.cls := findClass_of_methodNamed B.named
  have hlocks := B.notSynchronized
  subst hsz
  have hD := hD0.self (sz := s.heap.size)
  generalize hAe : va_A (wM h cy S) s.heap.size = A at hD ⊢
  have hA : ∀ q : Nat, s.heap.size ≤ q → A q := fun q h => by rw [← hAe]; exact Or.inr h
  have hS : va_S A s.heap s.heap [] := va_S.rf
  have hl := lv_entry ([.ref (h 31), .int p1]) (n := 6) (Nat.le_of_ble_eq_true rfl)
  rw [lg_entry_eq]
  generalize (lg_sl ([.ref (h 31), .int p1]) ++ List.replicate (6 - (lg_sl ([.ref (h 31), .int p1])).length) Slot.unset).toArray = ls at hl ⊢
  have hl : lv_has ls 6 [(0, .ref (h 31)), (1, .int p1)] := hl
  unfold wM_bears at hw
  clear hD0
  have L_25 : ∀ (n25 : Nat) (x1 : Int32) (x2 : Int32) (x3 : Int32) (x4 : Int32) (x5 : Int32) (S : MS) (H : Heap) (locs : List Loc) (ls : Array Slot), wM_bears_25 post n25 x1 x2 x3 x4 x5 S → va_P D vwCl (wM h cy S) H → va_D A (wM h cy S) → va_S A s.heap H locs → lv_has ls 6 [(0, .ref (h 31)), (1, .int x1), (2, .int x2), (3, .int x3), (4, .int x4), (5, .int x5)] → W p l e (headSpec wsX12_bears { frames := 2, cells := 0, slots := 0, locals := 45 }).room s m (([.ref (h 31), .int p1] : List Value).toArray) below meth c H locs 0 0 (MQ below (va_Qi post (k_Post D (tyM cy) (wM h cy) A) A) (([.ref (h 31), .int p1] : List Value).toArray) s 0 0 A) (F0 m 25 ls []) := by
    intro n25
    induction n25 with
    | zero => intro x1 x2 x3 x4 x5 S H locs ls hw; exact False.elim hw
    | succ n25 ih_25 =>
      intro x1 x2 x3 x4 x5 S H locs ls hw hP hD hS hl
      unfold wM_bears_25 at hw
      refine lv_iload hx hb dX12_bears_25 (lv_at hl 5 rfl) ?_
      refine lv_bipush (v := 100) hx hb dX12_bears_27 (by decide) ?_
      obtain ⟨hc_1t, hc_1f⟩ := hw
      refine lv_icmp_gt (tgt := 67) hx hb dX12_bears_29 (by decide) (fun c_1 => ?_) (fun c_1 => ?_)
      · have hw := hc_1t c_1
        clear hc_1t hc_1f
        refine lv_iload_n hx hb dX12_bears_67 rfl (lv_at hl 1 rfl) ?_
        obtain ⟨hc_2t, hc_2f⟩ := hw
        refine lv_if_ne (tgt := 75) hx hb dX12_bears_68 (by decide) (fun c_2 => ?_) (fun c_2 => ?_)
        · have hw := hc_2f c_2
          clear hc_2t hc_2f
          refine lv_iload_n hx hb dX12_bears_75 rfl (lv_at hl 1 rfl) ?_
          refine lv_iconst (v := 1) hx hb dX12_bears_76 (by decide) ?_
          obtain ⟨hc_3t, hc_3f⟩ := hw
          refine lv_icmp_ne (tgt := 84) hx hb dX12_bears_77 (by decide) (fun c_3 => ?_) (fun c_3 => ?_)
          · have hw := hc_3f c_3
            clear hc_3t hc_3f
            refine lv_iload hx hb dX12_bears_84 (lv_at hl 4 rfl) ?_
            exact W.iret (v := x4) hx hb hr (fun t ht hW => ⟨⟨x4, S, rfl, hw, by rw [ht]; exact hP, va_K.moved hW.alike hK, hD⟩, hS.F ht⟩) hS.2.2 dX12_bears_86
          · have hw := hc_3t c_3
            clear hc_3t hc_3f
            refine lv_iload_n hx hb dX12_bears_80 rfl (lv_at hl 3 rfl) ?_
            refine lv_goto (tgt := 86) hx hb dX12_bears_81 (by decide) ?_
            exact W.iret (v := x3) hx hb hr (fun t ht hW => ⟨⟨x3, S, rfl, hw, by rw [ht]; exact hP, va_K.moved hW.alike hK, hD⟩, hS.F ht⟩) hS.2.2 dX12_bears_86
        · have hw := hc_2t c_2
          clear hc_2t hc_2f
          refine lv_iload_n hx hb dX12_bears_71 rfl (lv_at hl 2 rfl) ?_
          refine lv_goto (tgt := 86) hx hb dX12_bears_72 (by decide) ?_
          exact W.iret (v := x2) hx hb hr (fun t ht hW => ⟨⟨x2, S, rfl, hw, by rw [ht]; exact hP, va_K.moved hW.alike hK, hD⟩, hS.F ht⟩) hS.2.2 dX12_bears_86
      · have hw := hc_1f c_1
        clear hc_1t hc_1f
        refine lv_aload_n hx hb dX12_bears_32 rfl (lv_at hl 0 rfl) ?_
        refine lv_iload hx hb dX12_bears_33 (lv_at hl 5 rfl) ?_
        refine k_callVi (As := [.int x5]) (rest := []) ⟨hx, hb, hml, hown, hts⟩ (cM_errorsBy l D h cy _ _ _ hw) (cwV 1 hts gX12_bears_X12_errorsBy rfl rfl rfl (by decide +kernel) ⟨Nat.le_of_ble_eq_true rfl, Nat.le_of_ble_eq_true rfl⟩) (va_recv hK hP (ci := 11) (q0 := 0) rfl rfl) hK hP hD hS hA rfl hl.1 rfl (Nat.le_of_ble_eq_true rfl) dX12_bears_35 ⟨Nat.zero_le _, Nat.zero_le _⟩ (fun r_4 S_5 H locs hw hP hD hS => ?_)
        refine lv_iload_n hx hb dX12_bears_38 rfl (lv_at hl 2 rfl) ?_
        obtain ⟨hc_6t, hc_6f⟩ := hw
        refine lv_icmp_eq (tgt := 45) hx hb dX12_bears_39 (by decide) (fun c_6 => ?_) (fun c_6 => ?_)
        · have hw := hc_6t c_6
          clear hc_6t hc_6f
          refine lv_iload_n hx hb dX12_bears_45 rfl (lv_at hl 3 rfl) ?_
          refine lv_iconst (v := (-1)) hx hb dX12_bears_46 (by decide) ?_
          obtain ⟨hc_7t, hc_7f⟩ := hw
          refine lv_icmp_ne (tgt := 55) hx hb dX12_bears_47 (by decide) (fun c_7 => ?_) (fun c_7 => ?_)
          · have hw := hc_7f c_7
            clear hc_7t hc_7f
            refine lv_iload_n hx hb dX12_bears_55 rfl (lv_at hl 3 rfl) ?_
            refine lv_istore_n (lv' := [(3, .int x3), (0, .ref (h 31)), (1, .int x1), (2, .int x2), (4, .int x4), (5, .int x5)]) hx hb dX12_bears_56 rfl hl (by decide) rfl (fun ls hl => ?_)
            refine lv_iload hx hb dX12_bears_57 (lv_at hl 5 rfl) ?_
            refine lv_istore (lv' := [(4, .int x5), (3, .int x3), (0, .ref (h 31)), (1, .int x1), (2, .int x2), (5, .int x5)]) hx hb dX12_bears_59 hl (by decide) rfl (fun ls hl => ?_)
            refine lv_iinc (v := x5 + 1) (lv' := [(5, .int (x5 + 1)), (4, .int x5), (3, .int x3), (0, .ref (h 31)), (1, .int x1), (2, .int x2)]) hx hb dX12_bears_61 hl (k := 5) rfl (k_inc (by decide)) (by decide) rfl (fun ls hl => ?_)
            refine lv_goto (tgt := 25) hx hb dX12_bears_64 (by decide) ?_
            exact ih_25 x1 x2 x3 x5 (x5 + 1) S_5 _ _ _ hw hP hD hS (lv_sub hl [3, 4, 5, 2, 1, 0] rfl)
          · have hw := hc_7t c_7
            clear hc_7t hc_7f
            refine lv_iload hx hb dX12_bears_50 (lv_at hl 5 rfl) ?_
            refine lv_goto (tgt := 56) hx hb dX12_bears_52 (by decide) ?_
            refine lv_istore_n (lv' := [(3, .int x5), (0, .ref (h 31)), (1, .int x1), (2, .int x2), (4, .int x4), (5, .int x5)]) hx hb dX12_bears_56 rfl hl (by decide) rfl (fun ls hl => ?_)
            refine lv_iload hx hb dX12_bears_57 (lv_at hl 5 rfl) ?_
            refine lv_istore (lv' := [(4, .int x5), (3, .int x5), (0, .ref (h 31)), (1, .int x1), (2, .int x2), (5, .int x5)]) hx hb dX12_bears_59 hl (by decide) rfl (fun ls hl => ?_)
            refine lv_iinc (v := x5 + 1) (lv' := [(5, .int (x5 + 1)), (4, .int x5), (3, .int x5), (0, .ref (h 31)), (1, .int x1), (2, .int x2)]) hx hb dX12_bears_61 hl (k := 5) rfl (k_inc (by decide)) (by decide) rfl (fun ls hl => ?_)
            refine lv_goto (tgt := 25) hx hb dX12_bears_64 (by decide) ?_
            exact ih_25 x1 x2 x5 x5 (x5 + 1) S_5 _ _ _ hw hP hD hS (lv_sub hl [3, 4, 5, 2, 1, 0] rfl)
        · have hw := hc_6f c_6
          clear hc_6t hc_6f
          refine lv_goto (tgt := 61) hx hb dX12_bears_42 (by decide) ?_
          refine lv_iinc (v := x5 + 1) (lv' := [(5, .int (x5 + 1)), (0, .ref (h 31)), (1, .int x1), (2, .int x2), (3, .int x3), (4, .int x4)]) hx hb dX12_bears_61 hl (k := 5) rfl (k_inc (by decide)) (by decide) rfl (fun ls hl => ?_)
          refine lv_goto (tgt := 25) hx hb dX12_bears_64 (by decide) ?_
          exact ih_25 x1 x2 x3 x4 (x5 + 1) S_5 _ _ _ hw hP hD hS (lv_sub hl [1, 2, 3, 4, 5, 0] rfl)
  refine lv_iload_n hx hb dX12_bears_0 rfl (lv_at hl 1 rfl) ?_
  refine lv_iconst (v := 0) hx hb dX12_bears_1 (by decide) ?_
  refine lv_iconst (v := 2) hx hb dX12_bears_2 (by decide) ?_
  refine k_callSi (As := [.int p1, .int 0, .int 2]) (rest := []) ⟨hx, hb, hml, hown, hts⟩ (cM_isIn l D h cy _ _ _ _ _ hw) (va_cwS 3 hts gX12_bears_X12_isIn rfl rfl rfl (by decide +kernel) ⟨Nat.le_of_ble_eq_true rfl, Nat.le_of_ble_eq_true rfl⟩) hK hP hD hS hA rfl hl.1 rfl (Nat.le_of_ble_eq_true rfl) dX12_bears_3 ⟨Nat.zero_le _, Nat.zero_le _⟩ (fun r_8 S_9 H locs hw hP hD hS => ?_)
  obtain ⟨hc_10t, hc_10f⟩ := hw
  refine lv_if_ne (tgt := 12) hx hb dX12_bears_6 (by decide) (fun c_10 => ?_) (fun c_10 => ?_)
  · have hw := hc_10f c_10
    clear hc_10t hc_10f
    refine lv_aload_n hx hb dX12_bears_12 rfl (lv_at hl 0 rfl) ?_
    refine k_callVi (As := []) (rest := []) ⟨hx, hb, hml, hown, hts⟩ (cM_leastErrors l D h cy _ _ hw) (cwV 0 hts gX12_bears_X12_leastErrors rfl rfl rfl (by decide +kernel) ⟨Nat.le_of_ble_eq_true rfl, Nat.le_of_ble_eq_true rfl⟩) (va_recv hK hP (ci := 11) (q0 := 0) rfl rfl) hK hP hD hS hA rfl hl.1 rfl (Nat.le_of_ble_eq_true rfl) dX12_bears_13 ⟨Nat.zero_le _, Nat.zero_le _⟩ (fun r_11 S_12 H locs hw hP hD hS => ?_)
    refine lv_istore_n (lv' := [(2, .int r_11), (0, .ref (h 31)), (1, .int p1)]) hx hb dX12_bears_16 rfl hl (by decide) rfl (fun ls hl => ?_)
    refine lv_iconst (v := (-1)) hx hb dX12_bears_17 (by decide) ?_
    refine lv_istore_n (lv' := [(3, .int (-1)), (2, .int r_11), (0, .ref (h 31)), (1, .int p1)]) hx hb dX12_bears_18 rfl hl (by decide) rfl (fun ls hl => ?_)
    refine lv_iconst (v := (-1)) hx hb dX12_bears_19 (by decide) ?_
    refine lv_istore (lv' := [(4, .int (-1)), (3, .int (-1)), (2, .int r_11), (0, .ref (h 31)), (1, .int p1)]) hx hb dX12_bears_20 hl (by decide) rfl (fun ls hl => ?_)
    refine lv_iconst (v := 0) hx hb dX12_bears_22 (by decide) ?_
    refine lv_istore (lv' := [(5, .int 0), (4, .int (-1)), (3, .int (-1)), (2, .int r_11), (0, .ref (h 31)), (1, .int p1)]) hx hb dX12_bears_23 hl (by decide) rfl (fun ls hl => ?_)
    obtain ⟨n_25, hw⟩ := hw
    exact L_25 n_25 p1 r_11 (-1) (-1) 0 S_12 _ _ _ hw hP hD hS (lv_sub hl [4, 5, 3, 2, 1, 0] rfl)
  · have hw := hc_10t c_10
    clear hc_10t hc_10f
    refine lv_bipush (v := (-2)) hx hb dX12_bears_9 (by decide) ?_
    exact W.iret (v := (-2)) hx hb hr (fun t ht hW => ⟨⟨(-2), S_9, rfl, hw, by rw [ht]; exact hP, va_K.moved hW.alike hK, hD⟩, hS.F ht⟩) hS.2.2 dX12_bears_11
def wM_next_116 (post : Int32 → MS → Prop) (K67 : Int32 → Int32 → Int32 → Int32 → Int32 → Int32 → Int32 → MS → Prop) (x1 : Int32) (x2 : Int32) (x3 : Int32) (x4 : Int32) (x5 : Int32) (x6 : Int32) (x7 : Int32) (t0 : Int32) (S : MS) : Prop := ((x6 = 0 → K67 x1 x2 x3 x4 x5 x6 (x7 + 1) S) ∧ (¬ (x6 = 0) → ((x6 = x3 → K67 x1 x2 x3 x4 x5 x6 (x7 + 1) S) ∧ (¬ (x6 = x3) → ((t0 < x5 → K67 x1 x2 x3 x7 t0 x6 (x7 + 1) S) ∧ (¬ (t0 < x5) → K67 x1 x2 x3 x4 x5 x6 (x7 + 1) S))))))
def wM_next_90 (post : Int32 → MS → Prop) (K67 : Int32 → Int32 → Int32 → Int32 → Int32 → Int32 → Int32 → MS → Prop) (x1 : Int32) (x2 : Int32) (x3 : Int32) (x4 : Int32) (x5 : Int32) (x7 : Int32) (t0 : Int32) (t1 : Int32) (S : MS) : Prop := (((2 * (t0 - t1)) ≤ x3 → wM_next_116 post K67 x1 x2 x3 x4 x5 (t0 - t1) x7 (x3 - (2 * (t0 - t1))) S) ∧ (¬ ((2 * (t0 - t1)) ≤ x3) → wM_next_116 post K67 x1 x2 x3 x4 x5 (t0 - t1) x7 ((2 * (t0 - t1)) - x3) S))
def wM_next_67 (post : Int32 → MS → Prop) : Nat → Int32 → Int32 → Int32 → Int32 → Int32 → Int32 → Int32 → MS → Prop
  | 0, _, _, _, _, _, _, _, _ => False
  | n + 1, x1, x2, x3, x4, x5, x6, x7, S => ((x1 < x7 → post x4 S) ∧ (¬ (x1 < x7) → wM_errorsBy x7 S (fun r_2 S_3 => ((r_2 = x2 → wM_next_90 post (wM_next_67 post n) x1 x2 x3 x4 x5 x7 x6 1 S_3) ∧ (¬ (r_2 = x2) → wM_next_90 post (wM_next_67 post n) x1 x2 x3 x4 x5 x7 x6 0 S_3)))))
def wM_next_22 (post : Int32 → MS → Prop) : Nat → Int32 → Int32 → Int32 → Int32 → MS → Prop
  | 0, _, _, _, _, _ => False
  | n + 1, x1, x2, x3, x4, S => ((100 < x4 → ∃ k_ : Nat, wM_next_67 post k_ x1 x2 x3 (-1) 1000000000 x3 0 S) ∧ (¬ (100 < x4) → wM_errorsBy x4 S (fun r_2 S_3 => ((r_2 = x2 → wM_next_22 post n x1 x2 (x3 + 1) (x4 + 1) S_3) ∧ (¬ (r_2 = x2) → wM_next_22 post n x1 x2 (x3 + 0) (x4 + 1) S_3)))))
def wM_next (p1 : Int32) (S : MS) (post : Int32 → MS → Prop) : Prop := wM_isIn p1 0 99 S (fun r_1 S_2 => ((r_1 = 0 → post (-1) S_2) ∧ (¬ (r_1 = 0) → wM_leastErrors S_2 (fun r_4 S_5 => ∃ k_ : Nat, wM_next_22 post k_ p1 r_4 0 0 S_5))))
set_option maxHeartbeats 4000000 in
set_option maxRecDepth 100000 in
theorem cM_next (l : Launch) (D : va_G) (h : Nat → Nat) (cy : Nat → ClassId) (p1 : Int32) (S : MS) (post : Int32 → MS → Prop) (hw : wM_next p1 S post) : k_Mi l yX12_next wsX12_next { frames := 2, cells := 0, slots := 0, locals := 45 } D (tyM cy) (wM h cy) [.ref (h 31), .int p1] S post := by
  intro sz
  refine Met.ofW (cc := cX12_next) (maxL := 9) (ret := (some .int)) (by decide) rfl ?_
  intro p e s m args below meth c s₁ B hml hv
  obtain ⟨rfl, hsz, hP, hK, hD0⟩ := hv
  have hx := B.exec
  have hb := B.bytes
  have hr := B.returns
  have hts := atoms_spec (ws := wsX12_next) B.pre
  have hown : s.vm.findClass RX12 = some m.cls := findClass_of_methodNamed B.named
  have hlocks := B.notSynchronized
  subst hsz
  have hD := hD0.self (sz := s.heap.size)
  generalize hAe : va_A (wM h cy S) s.heap.size = A at hD ⊢
  have hA : ∀ q : Nat, s.heap.size ≤ q → A q := fun q h => by rw [← hAe]; exact Or.inr h
  have hS : va_S A s.heap s.heap [] := va_S.rf
  have wc453 := hts (.constant RX12 453 (1000000000)) (List.mem_of_getElem? (i := 1) rfl)
  have hl := lv_entry ([.ref (h 31), .int p1]) (n := 9) (Nat.le_of_ble_eq_true rfl)
  rw [lg_entry_eq]
  generalize (lg_sl ([.ref (h 31), .int p1]) ++ List.replicate (9 - (lg_sl ([.ref (h 31), .int p1])).length) Slot.unset).toArray = ls at hl ⊢
  have hl : lv_has ls 9 [(0, .ref (h 31)), (1, .int p1)] := hl
  unfold wM_next at hw
  clear hD0
  have L_67 : ∀ (n67 : Nat) (x1 : Int32) (x2 : Int32) (x3 : Int32) (x4 : Int32) (x5 : Int32) (x6 : Int32) (x7 : Int32) (S : MS) (H : Heap) (locs : List Loc) (ls : Array Slot), wM_next_67 post n67 x1 x2 x3 x4 x5 x6 x7 S → va_P D vwCl (wM h cy S) H → va_D A (wM h cy S) → va_S A s.heap H locs → lv_has ls 9 [(0, .ref (h 31)), (1, .int x1), (2, .int x2), (3, .int x3), (4, .int x4), (5, .int x5), (6, .int x6), (7, .int x7)] → W p l e (headSpec wsX12_next { frames := 2, cells := 0, slots := 0, locals := 45 }).room s m (([.ref (h 31), .int p1] : List Value).toArray) below meth c H locs 0 0 (MQ below (va_Qi post (k_Post D (tyM cy) (wM h cy) A) A) (([.ref (h 31), .int p1] : List Value).toArray) s 0 0 A) (F0 m 67 ls []) := by
    intro n67
    induction n67 with
    | zero => intro x1 x2 x3 x4 x5 x6 x7 S H locs ls hw; exact False.elim hw
    | succ n67 ih_67 =>
      have J_116 : ∀ (x1 : Int32) (x2 : Int32) (x3 : Int32) (x4 : Int32) (x5 : Int32) (x6 : Int32) (x7 : Int32) (t0 : Int32) (S : MS) (H : Heap) (locs : List Loc) (ls : Array Slot), wM_next_116 post (wM_next_67 post n67) x1 x2 x3 x4 x5 x6 x7 t0 S → va_P D vwCl (wM h cy S) H → va_D A (wM h cy S) → va_S A s.heap H locs → lv_has ls 9 [(0, .ref (h 31)), (1, .int x1), (2, .int x2), (3, .int x3), (4, .int x4), (5, .int x5), (6, .int x6), (7, .int x7)] → W p l e (headSpec wsX12_next { frames := 2, cells := 0, slots := 0, locals := 45 }).room s m (([.ref (h 31), .int p1] : List Value).toArray) below meth c H locs 0 0 (MQ below (va_Qi post (k_Post D (tyM cy) (wM h cy) A) A) (([.ref (h 31), .int p1] : List Value).toArray) s 0 0 A) (F0 m 116 ls [.int t0]) := by
        intro x1 x2 x3 x4 x5 x6 x7 t0 S H locs ls hw hP hD hS hl
        unfold wM_next_116 at hw
        refine lv_istore (lv' := [(8, .int t0), (0, .ref (h 31)), (1, .int x1), (2, .int x2), (3, .int x3), (4, .int x4), (5, .int x5), (6, .int x6), (7, .int x7)]) hx hb dX12_next_116 hl (by decide) rfl (fun ls hl => ?_)
        refine lv_iload hx hb dX12_next_118 (lv_at hl 7 rfl) ?_
        obtain ⟨hc_1t, hc_1f⟩ := hw
        refine lv_if_eq (tgt := 147) hx hb dX12_next_120 (by decide) (fun c_1 => ?_) (fun c_1 => ?_)
        · have hw := hc_1t c_1
          clear hc_1t hc_1f
          refine lv_iinc (v := x7 + 1) (lv' := [(7, .int (x7 + 1)), (8, .int t0), (0, .ref (h 31)), (1, .int x1), (2, .int x2), (3, .int x3), (4, .int x4), (5, .int x5), (6, .int x6)]) hx hb dX12_next_147 hl (k := 8) rfl (k_inc (by decide)) (by decide) rfl (fun ls hl => ?_)
          refine lv_goto (tgt := 67) hx hb dX12_next_150 (by decide) ?_
          exact ih_67 x1 x2 x3 x4 x5 x6 (x7 + 1) S _ _ _ hw hP hD hS (lv_sub hl [2, 3, 4, 5, 6, 7, 8, 0] rfl)
        · have hw := hc_1f c_1
          clear hc_1t hc_1f
          refine lv_iload hx hb dX12_next_123 (lv_at hl 7 rfl) ?_
          refine lv_iload_n hx hb dX12_next_125 rfl (lv_at hl 4 rfl) ?_
          obtain ⟨hc_2t, hc_2f⟩ := hw
          refine lv_icmp_eq (tgt := 147) hx hb dX12_next_126 (by decide) (fun c_2 => ?_) (fun c_2 => ?_)
          · have hw := hc_2t c_2
            clear hc_2t hc_2f
            refine lv_iinc (v := x7 + 1) (lv' := [(7, .int (x7 + 1)), (8, .int t0), (0, .ref (h 31)), (1, .int x1), (2, .int x2), (3, .int x3), (4, .int x4), (5, .int x5), (6, .int x6)]) hx hb dX12_next_147 hl (k := 8) rfl (k_inc (by decide)) (by decide) rfl (fun ls hl => ?_)
            refine lv_goto (tgt := 67) hx hb dX12_next_150 (by decide) ?_
            exact ih_67 x1 x2 x3 x4 x5 x6 (x7 + 1) S _ _ _ hw hP hD hS (lv_sub hl [2, 3, 4, 5, 6, 7, 8, 0] rfl)
          · have hw := hc_2f c_2
            clear hc_2t hc_2f
            refine lv_iload hx hb dX12_next_129 (lv_at hl 0 rfl) ?_
            refine lv_iload hx hb dX12_next_131 (lv_at hl 6 rfl) ?_
            obtain ⟨hc_3t, hc_3f⟩ := hw
            refine lv_icmp_lt (tgt := 139) hx hb dX12_next_133 (by decide) (fun c_3 => ?_) (fun c_3 => ?_)
            · have hw := hc_3t c_3
              clear hc_3t hc_3f
              refine lv_iload hx hb dX12_next_139 (lv_at hl 0 rfl) ?_
              refine lv_istore (lv' := [(5, .int t0), (8, .int t0), (0, .ref (h 31)), (1, .int x1), (2, .int x2), (3, .int x3), (4, .int x4), (6, .int x6), (7, .int x7)]) hx hb dX12_next_141 hl (by decide) rfl (fun ls hl => ?_)
              refine lv_iload hx hb dX12_next_143 (lv_at hl 8 rfl) ?_
              refine lv_istore (lv' := [(4, .int x7), (5, .int t0), (8, .int t0), (0, .ref (h 31)), (1, .int x1), (2, .int x2), (3, .int x3), (6, .int x6), (7, .int x7)]) hx hb dX12_next_145 hl (by decide) rfl (fun ls hl => ?_)
              refine lv_iinc (v := x7 + 1) (lv' := [(7, .int (x7 + 1)), (4, .int x7), (5, .int t0), (8, .int t0), (0, .ref (h 31)), (1, .int x1), (2, .int x2), (3, .int x3), (6, .int x6)]) hx hb dX12_next_147 hl (k := 8) rfl (k_inc (by decide)) (by decide) rfl (fun ls hl => ?_)
              refine lv_goto (tgt := 67) hx hb dX12_next_150 (by decide) ?_
              exact ih_67 x1 x2 x3 x7 t0 x6 (x7 + 1) S _ _ _ hw hP hD hS (lv_sub hl [4, 5, 6, 7, 1, 2, 8, 0] rfl)
            · have hw := hc_3f c_3
              clear hc_3t hc_3f
              refine lv_goto (tgt := 147) hx hb dX12_next_136 (by decide) ?_
              refine lv_iinc (v := x7 + 1) (lv' := [(7, .int (x7 + 1)), (8, .int t0), (0, .ref (h 31)), (1, .int x1), (2, .int x2), (3, .int x3), (4, .int x4), (5, .int x5), (6, .int x6)]) hx hb dX12_next_147 hl (k := 8) rfl (k_inc (by decide)) (by decide) rfl (fun ls hl => ?_)
              refine lv_goto (tgt := 67) hx hb dX12_next_150 (by decide) ?_
              exact ih_67 x1 x2 x3 x4 x5 x6 (x7 + 1) S _ _ _ hw hP hD hS (lv_sub hl [2, 3, 4, 5, 6, 7, 8, 0] rfl)
      have J_90 : ∀ (x1 : Int32) (x2 : Int32) (x3 : Int32) (x4 : Int32) (x5 : Int32) (x7 : Int32) (t0 : Int32) (t1 : Int32) (S : MS) (H : Heap) (locs : List Loc) (ls : Array Slot), wM_next_90 post (wM_next_67 post n67) x1 x2 x3 x4 x5 x7 t0 t1 S → va_P D vwCl (wM h cy S) H → va_D A (wM h cy S) → va_S A s.heap H locs → lv_has ls 9 [(0, .ref (h 31)), (1, .int x1), (2, .int x2), (3, .int x3), (4, .int x4), (5, .int x5), (7, .int x7)] → W p l e (headSpec wsX12_next { frames := 2, cells := 0, slots := 0, locals := 45 }).room s m (([.ref (h 31), .int p1] : List Value).toArray) below meth c H locs 0 0 (MQ below (va_Qi post (k_Post D (tyM cy) (wM h cy) A) A) (([.ref (h 31), .int p1] : List Value).toArray) s 0 0 A) (F0 m 90 ls [.int t1, .int t0]) := by
        intro x1 x2 x3 x4 x5 x7 t0 t1 S H locs ls hw hP hD hS hl
        unfold wM_next_90 at hw
        refine lv_isub hx hb dX12_next_90 ?_
        refine lv_istore (lv' := [(6, .int (t0 - t1)), (0, .ref (h 31)), (1, .int x1), (2, .int x2), (3, .int x3), (4, .int x4), (5, .int x5), (7, .int x7)]) hx hb dX12_next_91 hl (by decide) rfl (fun ls hl => ?_)
        refine lv_iconst (v := 2) hx hb dX12_next_93 (by decide) ?_
        refine lv_iload hx hb dX12_next_94 (lv_at hl 0 rfl) ?_
        refine lv_imul hx hb dX12_next_96 ?_
        refine lv_iload_n hx hb dX12_next_97 rfl (lv_at hl 4 rfl) ?_
        obtain ⟨hc_4t, hc_4f⟩ := hw
        refine lv_icmp_le (tgt := 110) hx hb dX12_next_98 (by decide) (fun c_4 => ?_) (fun c_4 => ?_)
        · have hw := hc_4t c_4
          clear hc_4t hc_4f
          refine lv_iload_n hx hb dX12_next_110 rfl (lv_at hl 4 rfl) ?_
          refine lv_iconst (v := 2) hx hb dX12_next_111 (by decide) ?_
          refine lv_iload hx hb dX12_next_112 (lv_at hl 0 rfl) ?_
          refine lv_imul hx hb dX12_next_114 ?_
          refine lv_isub hx hb dX12_next_115 ?_
          exact J_116 x1 x2 x3 x4 x5 (t0 - t1) x7 (x3 - (2 * (t0 - t1))) S _ _ _ hw hP hD hS (lv_sub hl [1, 2, 3, 4, 5, 6, 0, 7] rfl)
        · have hw := hc_4f c_4
          clear hc_4t hc_4f
          refine lv_iconst (v := 2) hx hb dX12_next_101 (by decide) ?_
          refine lv_iload hx hb dX12_next_102 (lv_at hl 0 rfl) ?_
          refine lv_imul hx hb dX12_next_104 ?_
          refine lv_iload_n hx hb dX12_next_105 rfl (lv_at hl 4 rfl) ?_
          refine lv_isub hx hb dX12_next_106 ?_
          refine lv_goto (tgt := 116) hx hb dX12_next_107 (by decide) ?_
          exact J_116 x1 x2 x3 x4 x5 (t0 - t1) x7 ((2 * (t0 - t1)) - x3) S _ _ _ hw hP hD hS (lv_sub hl [1, 2, 3, 4, 5, 6, 0, 7] rfl)
      intro x1 x2 x3 x4 x5 x6 x7 S H locs ls hw hP hD hS hl
      unfold wM_next_67 at hw
      refine lv_iload hx hb dX12_next_67 (lv_at hl 7 rfl) ?_
      refine lv_iload_n hx hb dX12_next_69 rfl (lv_at hl 1 rfl) ?_
      obtain ⟨hc_5t, hc_5f⟩ := hw
      refine lv_icmp_gt (tgt := 153) hx hb dX12_next_70 (by decide) (fun c_5 => ?_) (fun c_5 => ?_)
      · have hw := hc_5t c_5
        clear hc_5t hc_5f
        refine lv_iload hx hb dX12_next_153 (lv_at hl 4 rfl) ?_
        exact W.iret (v := x4) hx hb hr (fun t ht hW => ⟨⟨x4, S, rfl, hw, by rw [ht]; exact hP, va_K.moved hW.alike hK, hD⟩, hS.F ht⟩) hS.2.2 dX12_next_155
      · have hw := hc_5f c_5
        clear hc_5t hc_5f
        refine lv_iload hx hb dX12_next_73 (lv_at hl 6 rfl) ?_
        refine lv_aload_n hx hb dX12_next_75 rfl (lv_at hl 0 rfl) ?_
        refine lv_iload hx hb dX12_next_76 (lv_at hl 7 rfl) ?_
        refine k_callVi (As := [.int x7]) (rest := [.int x6]) ⟨hx, hb, hml, hown, hts⟩ (cM_errorsBy l D h cy _ _ _ hw) (cwV 1 hts gX12_next_X12_errorsBy rfl rfl rfl (by decide +kernel) ⟨Nat.le_of_ble_eq_true rfl, Nat.le_of_ble_eq_true rfl⟩) (va_recv hK hP (ci := 11) (q0 := 0) rfl rfl) hK hP hD hS hA rfl hl.1 rfl (Nat.le_of_ble_eq_true rfl) dX12_next_78 ⟨Nat.zero_le _, Nat.zero_le _⟩ (fun r_6 S_7 H locs hw hP hD hS => ?_)
        refine lv_iload_n hx hb dX12_next_81 rfl (lv_at hl 2 rfl) ?_
        obtain ⟨hc_8t, hc_8f⟩ := hw
        refine lv_icmp_ne (tgt := 89) hx hb dX12_next_82 (by decide) (fun c_8 => ?_) (fun c_8 => ?_)
        · have hw := hc_8f c_8
          clear hc_8t hc_8f
          refine lv_iconst (v := 0) hx hb dX12_next_89 (by decide) ?_
          exact J_90 x1 x2 x3 x4 x5 x7 x6 0 S_7 _ _ _ hw hP hD hS (lv_sub hl [0, 1, 2, 3, 4, 5, 7] rfl)
        · have hw := hc_8t c_8
          clear hc_8t hc_8f
          refine lv_iconst (v := 1) hx hb dX12_next_85 (by decide) ?_
          refine lv_goto (tgt := 90) hx hb dX12_next_86 (by decide) ?_
          exact J_90 x1 x2 x3 x4 x5 x7 x6 1 S_7 _ _ _ hw hP hD hS (lv_sub hl [0, 1, 2, 3, 4, 5, 7] rfl)
  have L_22 : ∀ (n22 : Nat) (x1 : Int32) (x2 : Int32) (x3 : Int32) (x4 : Int32) (S : MS) (H : Heap) (locs : List Loc) (ls : Array Slot), wM_next_22 post n22 x1 x2 x3 x4 S → va_P D vwCl (wM h cy S) H → va_D A (wM h cy S) → va_S A s.heap H locs → lv_has ls 9 [(0, .ref (h 31)), (1, .int x1), (2, .int x2), (3, .int x3), (4, .int x4)] → W p l e (headSpec wsX12_next { frames := 2, cells := 0, slots := 0, locals := 45 }).room s m (([.ref (h 31), .int p1] : List Value).toArray) below meth c H locs 0 0 (MQ below (va_Qi post (k_Post D (tyM cy) (wM h cy) A) A) (([.ref (h 31), .int p1] : List Value).toArray) s 0 0 A) (F0 m 22 ls []) := by
    intro n22
    induction n22 with
    | zero => intro x1 x2 x3 x4 S H locs ls hw; exact False.elim hw
    | succ n22 ih_22 =>
      intro x1 x2 x3 x4 S H locs ls hw hP hD hS hl
      unfold wM_next_22 at hw
      refine lv_iload hx hb dX12_next_22 (lv_at hl 4 rfl) ?_
      refine lv_bipush (v := 100) hx hb dX12_next_24 (by decide) ?_
      obtain ⟨hc_9t, hc_9f⟩ := hw
      refine lv_icmp_gt (tgt := 53) hx hb dX12_next_26 (by decide) (fun c_9 => ?_) (fun c_9 => ?_)
      · have hw := hc_9t c_9
        clear hc_9t hc_9f
        refine lv_iconst (v := (-1)) hx hb dX12_next_53 (by decide) ?_
        refine lv_istore (lv' := [(4, .int (-1)), (0, .ref (h 31)), (1, .int x1), (2, .int x2), (3, .int x3)]) hx hb dX12_next_54 hl (by decide) rfl (fun ls hl => ?_)
        refine lv_ldcw (v := 1000000000) hx hb hown wc453 dX12_next_56 ?_
        refine lv_istore (lv' := [(5, .int 1000000000), (4, .int (-1)), (0, .ref (h 31)), (1, .int x1), (2, .int x2), (3, .int x3)]) hx hb dX12_next_59 hl (by decide) rfl (fun ls hl => ?_)
        refine lv_iload_n hx hb dX12_next_61 rfl (lv_at hl 5 rfl) ?_
        refine lv_istore (lv' := [(6, .int x3), (5, .int 1000000000), (4, .int (-1)), (0, .ref (h 31)), (1, .int x1), (2, .int x2), (3, .int x3)]) hx hb dX12_next_62 hl (by decide) rfl (fun ls hl => ?_)
        refine lv_iconst (v := 0) hx hb dX12_next_64 (by decide) ?_
        refine lv_istore (lv' := [(7, .int 0), (6, .int x3), (5, .int 1000000000), (4, .int (-1)), (0, .ref (h 31)), (1, .int x1), (2, .int x2), (3, .int x3)]) hx hb dX12_next_65 hl (by decide) rfl (fun ls hl => ?_)
        obtain ⟨n_67, hw⟩ := hw
        exact L_67 n_67 x1 x2 x3 (-1) 1000000000 x3 0 S _ _ _ hw hP hD hS (lv_sub hl [4, 5, 6, 7, 3, 2, 1, 0] rfl)
      · have hw := hc_9f c_9
        clear hc_9t hc_9f
        refine lv_iload_n hx hb dX12_next_29 rfl (lv_at hl 3 rfl) ?_
        refine lv_aload_n hx hb dX12_next_30 rfl (lv_at hl 0 rfl) ?_
        refine lv_iload hx hb dX12_next_31 (lv_at hl 4 rfl) ?_
        refine k_callVi (As := [.int x4]) (rest := [.int x3]) ⟨hx, hb, hml, hown, hts⟩ (cM_errorsBy l D h cy _ _ _ hw) (cwV 1 hts gX12_next_X12_errorsBy rfl rfl rfl (by decide +kernel) ⟨Nat.le_of_ble_eq_true rfl, Nat.le_of_ble_eq_true rfl⟩) (va_recv hK hP (ci := 11) (q0 := 0) rfl rfl) hK hP hD hS hA rfl hl.1 rfl (Nat.le_of_ble_eq_true rfl) dX12_next_33 ⟨Nat.zero_le _, Nat.zero_le _⟩ (fun r_10 S_11 H locs hw hP hD hS => ?_)
        refine lv_iload_n hx hb dX12_next_36 rfl (lv_at hl 2 rfl) ?_
        obtain ⟨hc_12t, hc_12f⟩ := hw
        refine lv_icmp_ne (tgt := 44) hx hb dX12_next_37 (by decide) (fun c_12 => ?_) (fun c_12 => ?_)
        · have hw := hc_12f c_12
          clear hc_12t hc_12f
          refine lv_iconst (v := 0) hx hb dX12_next_44 (by decide) ?_
          refine lv_iadd hx hb dX12_next_45 ?_
          refine lv_istore_n (lv' := [(3, .int (x3 + 0)), (0, .ref (h 31)), (1, .int x1), (2, .int x2), (4, .int x4)]) hx hb dX12_next_46 rfl hl (by decide) rfl (fun ls hl => ?_)
          refine lv_iinc (v := x4 + 1) (lv' := [(4, .int (x4 + 1)), (3, .int (x3 + 0)), (0, .ref (h 31)), (1, .int x1), (2, .int x2)]) hx hb dX12_next_47 hl (k := 4) rfl (k_inc (by decide)) (by decide) rfl (fun ls hl => ?_)
          refine lv_goto (tgt := 22) hx hb dX12_next_50 (by decide) ?_
          exact ih_22 x1 x2 (x3 + 0) (x4 + 1) S_11 _ _ _ hw hP hD hS (lv_sub hl [2, 3, 4, 1, 0] rfl)
        · have hw := hc_12t c_12
          clear hc_12t hc_12f
          refine lv_iconst (v := 1) hx hb dX12_next_40 (by decide) ?_
          refine lv_goto (tgt := 45) hx hb dX12_next_41 (by decide) ?_
          refine lv_iadd hx hb dX12_next_45 ?_
          refine lv_istore_n (lv' := [(3, .int (x3 + 1)), (0, .ref (h 31)), (1, .int x1), (2, .int x2), (4, .int x4)]) hx hb dX12_next_46 rfl hl (by decide) rfl (fun ls hl => ?_)
          refine lv_iinc (v := x4 + 1) (lv' := [(4, .int (x4 + 1)), (3, .int (x3 + 1)), (0, .ref (h 31)), (1, .int x1), (2, .int x2)]) hx hb dX12_next_47 hl (k := 4) rfl (k_inc (by decide)) (by decide) rfl (fun ls hl => ?_)
          refine lv_goto (tgt := 22) hx hb dX12_next_50 (by decide) ?_
          exact ih_22 x1 x2 (x3 + 1) (x4 + 1) S_11 _ _ _ hw hP hD hS (lv_sub hl [2, 3, 4, 1, 0] rfl)
  refine lv_iload_n hx hb dX12_next_0 rfl (lv_at hl 1 rfl) ?_
  refine lv_iconst (v := 0) hx hb dX12_next_1 (by decide) ?_
  refine lv_bipush (v := 99) hx hb dX12_next_2 (by decide) ?_
  refine k_callSi (As := [.int p1, .int 0, .int 99]) (rest := []) ⟨hx, hb, hml, hown, hts⟩ (cM_isIn l D h cy _ _ _ _ _ hw) (va_cwS 3 hts gX12_next_X12_isIn rfl rfl rfl (by decide +kernel) ⟨Nat.le_of_ble_eq_true rfl, Nat.le_of_ble_eq_true rfl⟩) hK hP hD hS hA rfl hl.1 rfl (Nat.le_of_ble_eq_true rfl) dX12_next_4 ⟨Nat.zero_le _, Nat.zero_le _⟩ (fun r_13 S_14 H locs hw hP hD hS => ?_)
  obtain ⟨hc_15t, hc_15f⟩ := hw
  refine lv_if_ne (tgt := 12) hx hb dX12_next_7 (by decide) (fun c_15 => ?_) (fun c_15 => ?_)
  · have hw := hc_15f c_15
    clear hc_15t hc_15f
    refine lv_aload_n hx hb dX12_next_12 rfl (lv_at hl 0 rfl) ?_
    refine k_callVi (As := []) (rest := []) ⟨hx, hb, hml, hown, hts⟩ (cM_leastErrors l D h cy _ _ hw) (cwV 0 hts gX12_next_X12_leastErrors rfl rfl rfl (by decide +kernel) ⟨Nat.le_of_ble_eq_true rfl, Nat.le_of_ble_eq_true rfl⟩) (va_recv hK hP (ci := 11) (q0 := 0) rfl rfl) hK hP hD hS hA rfl hl.1 rfl (Nat.le_of_ble_eq_true rfl) dX12_next_13 ⟨Nat.zero_le _, Nat.zero_le _⟩ (fun r_16 S_17 H locs hw hP hD hS => ?_)
    refine lv_istore_n (lv' := [(2, .int r_16), (0, .ref (h 31)), (1, .int p1)]) hx hb dX12_next_16 rfl hl (by decide) rfl (fun ls hl => ?_)
    refine lv_iconst (v := 0) hx hb dX12_next_17 (by decide) ?_
    refine lv_istore_n (lv' := [(3, .int 0), (2, .int r_16), (0, .ref (h 31)), (1, .int p1)]) hx hb dX12_next_18 rfl hl (by decide) rfl (fun ls hl => ?_)
    refine lv_iconst (v := 0) hx hb dX12_next_19 (by decide) ?_
    refine lv_istore (lv' := [(4, .int 0), (3, .int 0), (2, .int r_16), (0, .ref (h 31)), (1, .int p1)]) hx hb dX12_next_20 hl (by decide) rfl (fun ls hl => ?_)
    obtain ⟨n_22, hw⟩ := hw
    exact L_22 n_22 p1 r_16 0 0 S_17 _ _ _ hw hP hD hS (lv_sub hl [3, 4, 2, 1, 0] rfl)
  · have hw := hc_15t c_15
    clear hc_15t hc_15f
    refine lv_iconst (v := (-1)) hx hb dX12_next_10 (by decide) ?_
    exact W.iret (v := (-1)) hx hb hr (fun t ht hW => ⟨⟨(-1), S_14, rfl, hw, by rw [ht]; exact hP, va_K.moved hW.alike hK, hD⟩, hS.F ht⟩) hS.2.2 dX12_next_11
def wM_common_17 (post : Int64 → MS → Prop) : Nat → Int64 → Int64 → MS → Prop
  | 0, _, _, _ => False
  | n + 1, x4, x6, S => ((x6 = 0 → post x4 S) ∧ (¬ (x6 = 0) → (¬ x6 = 0 ∧ wM_common_17 post n x6 (k_remL x4 x6) S)))
def wM_common (p1 : Int64) (p2 : Int64) (S : MS) (post : Int64 → MS → Prop) : Prop := ((0 ≤ p1 → ∃ k_ : Nat, wM_common_17 post k_ p1 p2 S) ∧ (¬ (0 ≤ p1) → ∃ k_ : Nat, wM_common_17 post k_ (-p1) p2 S))
set_option maxHeartbeats 4000000 in
set_option maxRecDepth 100000 in
theorem cM_common (l : Launch) (D : va_G) (h : Nat → Nat) (cy : Nat → ClassId) (p1 : Int64) (p2 : Int64) (S : MS) (post : Int64 → MS → Prop) (hw : wM_common p1 p2 S post) : k_Ml l yX12_common wsX12_common { frames := 0, cells := 0, slots := 0, locals := 0 } D (tyM cy) (wM h cy) [.long p1, .long p2] S post := by
  intro sz
  refine Met.ofW (cc := cX12_common) (maxL := 10) (ret := (some .long)) (by decide) rfl ?_
  intro p e s m args below meth c s₁ B hml hv
  obtain ⟨rfl, hsz, hP, hK, hD0⟩ := hv
  have hx := B.exec
  have hb := B.bytes
  have hr := B.returns
  have hts := atoms_spec (ws := wsX12_common) B.pre
  have hown : s.vm.findClass RX12 = some m.cls := findClass_of_methodNamed B.named
  have hlocks := B.notSynchronized
  subst hsz
  have hD := hD0.self (sz := s.heap.size)
  generalize hAe : va_A (wM h cy S) s.heap.size = A at hD ⊢
  have hA : ∀ q : Nat, s.heap.size ≤ q → A q := fun q h => by rw [← hAe]; exact Or.inr h
  have hS : va_S A s.heap s.heap [] := va_S.rf
  have hl := lv_entry ([.long p1, .long p2]) (n := 10) (Nat.le_of_ble_eq_true rfl)
  rw [lg_entry_eq]
  generalize (lg_sl ([.long p1, .long p2]) ++ List.replicate (10 - (lg_sl ([.long p1, .long p2])).length) Slot.unset).toArray = ls at hl ⊢
  have hl : lv_has ls 10 [(0, .long p1), (2, .long p2)] := hl
  unfold wM_common at hw
  clear hD0
  have L_17 : ∀ (n17 : Nat) (x4 : Int64) (x6 : Int64) (S : MS) (H : Heap) (locs : List Loc) (ls : Array Slot), wM_common_17 post n17 x4 x6 S → va_P D vwCl (wM h cy S) H → va_D A (wM h cy S) → va_S A s.heap H locs → lv_has ls 10 [(4, .long x4), (6, .long x6)] → W p l e (headSpec wsX12_common { frames := 0, cells := 0, slots := 0, locals := 0 }).room s m (([.long p1, .long p2] : List Value).toArray) below meth c H locs 0 0 (MQ below (va_Ql post (k_Post D (tyM cy) (wM h cy) A) A) (([.long p1, .long p2] : List Value).toArray) s 0 0 A) (F0 m 17 ls []) := by
    intro n17
    induction n17 with
    | zero => intro x4 x6 S H locs ls hw; exact False.elim hw
    | succ n17 ih_17 =>
      intro x4 x6 S H locs ls hw hP hD hS hl
      unfold wM_common_17 at hw
      refine lv_lload hx hb dX12_common_17 (lv_at hl 1 rfl) ?_
      refine lv_lconst (v := 0) hx hb dX12_common_19 (by decide) ?_
      refine W.lcmp hx hb dX12_common_20 ?_
      obtain ⟨hc_1t, hc_1f⟩ := hw
      refine lv_if_eq (tgt := 42) hx hb dX12_common_21 (by decide) (fun c_1 => ?_) (fun c_1 => ?_)
      · have hw := hc_1t ((k_c0 _ _).mp c_1)
        clear hc_1t hc_1f
        refine lv_lload hx hb dX12_common_42 (lv_at hl 0 rfl) ?_
        exact W.lret (v := x4) hx hb hr (fun t ht hW => ⟨⟨x4, S, rfl, hw, by rw [ht]; exact hP, va_K.moved hW.alike hK, hD⟩, hS.F ht⟩) hS.2.2 dX12_common_44
      · have hw := hc_1f (fun q => c_1 ((k_c0 _ _).mpr q))
        clear hc_1t hc_1f
        refine lv_lload hx hb dX12_common_24 (lv_at hl 0 rfl) ?_
        refine lv_lload hx hb dX12_common_26 (lv_at hl 1 rfl) ?_
        obtain ⟨hz_2, hw⟩ := hw
        refine k_lrem hx hb dX12_common_28 hz_2 ?_
        refine lv_lstore (lv' := [(8, .long (k_remL x4 x6)), (4, .long x4), (6, .long x6)]) hx hb dX12_common_29 hl (by decide) rfl (fun ls hl => ?_)
        refine lv_lload hx hb dX12_common_31 (lv_at hl 2 rfl) ?_
        refine lv_lstore (lv' := [(4, .long x6), (8, .long (k_remL x4 x6)), (6, .long x6)]) hx hb dX12_common_33 hl (by decide) rfl (fun ls hl => ?_)
        refine lv_lload hx hb dX12_common_35 (lv_at hl 1 rfl) ?_
        refine lv_lstore (lv' := [(6, .long (k_remL x4 x6)), (4, .long x6), (8, .long (k_remL x4 x6))]) hx hb dX12_common_37 hl (by decide) rfl (fun ls hl => ?_)
        refine lv_goto (tgt := 17) hx hb dX12_common_39 (by decide) ?_
        exact ih_17 x6 (k_remL x4 x6) S _ _ _ hw hP hD hS (lv_sub hl [1, 0] rfl)
  refine lv_lload_n hx hb dX12_common_0 rfl (lv_at hl 0 rfl) ?_
  refine lv_lconst (v := 0) hx hb dX12_common_1 (by decide) ?_
  refine W.lcmp hx hb dX12_common_2 ?_
  obtain ⟨hc_3t, hc_3f⟩ := hw
  refine lv_if_ge (tgt := 11) hx hb dX12_common_3 (by decide) (fun c_3 => ?_) (fun c_3 => ?_)
  · have hw := hc_3t ((k_cge _ _).mp c_3)
    clear hc_3t hc_3f
    refine lv_lload_n hx hb dX12_common_11 rfl (lv_at hl 0 rfl) ?_
    refine lv_lstore (lv' := [(4, .long p1), (0, .long p1), (2, .long p2)]) hx hb dX12_common_12 hl (by decide) rfl (fun ls hl => ?_)
    refine lv_lload_n hx hb dX12_common_14 rfl (lv_at hl 2 rfl) ?_
    refine lv_lstore (lv' := [(6, .long p2), (4, .long p1), (0, .long p1), (2, .long p2)]) hx hb dX12_common_15 hl (by decide) rfl (fun ls hl => ?_)
    obtain ⟨n_17, hw⟩ := hw
    exact L_17 n_17 p1 p2 S _ _ _ hw hP hD hS (lv_sub hl [1, 0] rfl)
  · have hw := hc_3f (fun q => c_3 ((k_cge _ _).mpr q))
    clear hc_3t hc_3f
    refine lv_lload_n hx hb dX12_common_6 rfl (lv_at hl 0 rfl) ?_
    refine lv_lneg hx hb dX12_common_7 ?_
    refine lv_goto (tgt := 12) hx hb dX12_common_8 (by decide) ?_
    refine lv_lstore (lv' := [(4, .long (-p1)), (0, .long p1), (2, .long p2)]) hx hb dX12_common_12 hl (by decide) rfl (fun ls hl => ?_)
    refine lv_lload_n hx hb dX12_common_14 rfl (lv_at hl 2 rfl) ?_
    refine lv_lstore (lv' := [(6, .long p2), (4, .long (-p1)), (0, .long p1), (2, .long p2)]) hx hb dX12_common_15 hl (by decide) rfl (fun ls hl => ?_)
    obtain ⟨n_17, hw⟩ := hw
    exact L_17 n_17 (-p1) p2 S _ _ _ hw hP hD hS (lv_sub hl [1, 0] rfl)
def wM_orders_4 (post : Int32 → MS → Prop) : Nat → Int32 → Int32 → Int32 → MS → Prop
  | 0, _, _, _, _ => False
  | n + 1, x0, x1, x2, S => ((x0 < x2 → post x1 S) ∧ (¬ (x0 < x2) → wM_orders_4 post n x0 (x1 * x2) (x2 + 1) S))
def wM_orders (p1 : Int32) (S : MS) (post : Int32 → MS → Prop) : Prop := ∃ k_ : Nat, wM_orders_4 post k_ p1 1 2 S
set_option maxHeartbeats 4000000 in
set_option maxRecDepth 100000 in
theorem cM_orders (l : Launch) (D : va_G) (h : Nat → Nat) (cy : Nat → ClassId) (p1 : Int32) (S : MS) (post : Int32 → MS → Prop) (hw : wM_orders p1 S post) : k_Mi l yX12_orders wsX12_orders { frames := 0, cells := 0, slots := 0, locals := 0 } D (tyM cy) (wM h cy) [.int p1] S post := by
  intro sz
  refine Met.ofW (cc := cX12_orders) (maxL := 3) (ret := (some .int)) (by decide) rfl ?_
  intro p e s m args below meth c s₁ B hml hv
  obtain ⟨rfl, hsz, hP, hK, hD0⟩ := hv
  have hx := B.exec
  have hb := B.bytes
  have hr := B.returns
  have hts := atoms_spec (ws := wsX12_orders) B.pre
  have hown : s.vm.findClass RX12 = some m.cls := findClass_of_methodNamed B.named
  have hlocks := B.notSynchronized
  subst hsz
  have hD := hD0.self (sz := s.heap.size)
  generalize hAe : va_A (wM h cy S) s.heap.size = A at hD ⊢
  have hA : ∀ q : Nat, s.heap.size ≤ q → A q := fun q h => by rw [← hAe]; exact Or.inr h
  have hS : va_S A s.heap s.heap [] := va_S.rf
  have hl := lv_entry ([.int p1]) (n := 3) (Nat.le_of_ble_eq_true rfl)
  rw [lg_entry_eq]
  generalize (lg_sl ([.int p1]) ++ List.replicate (3 - (lg_sl ([.int p1])).length) Slot.unset).toArray = ls at hl ⊢
  have hl : lv_has ls 3 [(0, .int p1)] := hl
  unfold wM_orders at hw
  clear hD0
  have L_4 : ∀ (n4 : Nat) (x0 : Int32) (x1 : Int32) (x2 : Int32) (S : MS) (H : Heap) (locs : List Loc) (ls : Array Slot), wM_orders_4 post n4 x0 x1 x2 S → va_P D vwCl (wM h cy S) H → va_D A (wM h cy S) → va_S A s.heap H locs → lv_has ls 3 [(0, .int x0), (1, .int x1), (2, .int x2)] → W p l e (headSpec wsX12_orders { frames := 0, cells := 0, slots := 0, locals := 0 }).room s m (([.int p1] : List Value).toArray) below meth c H locs 0 0 (MQ below (va_Qi post (k_Post D (tyM cy) (wM h cy) A) A) (([.int p1] : List Value).toArray) s 0 0 A) (F0 m 4 ls []) := by
    intro n4
    induction n4 with
    | zero => intro x0 x1 x2 S H locs ls hw; exact False.elim hw
    | succ n4 ih_4 =>
      intro x0 x1 x2 S H locs ls hw hP hD hS hl
      unfold wM_orders_4 at hw
      refine lv_iload_n hx hb dX12_orders_4 rfl (lv_at hl 2 rfl) ?_
      refine lv_iload_n hx hb dX12_orders_5 rfl (lv_at hl 0 rfl) ?_
      obtain ⟨hc_1t, hc_1f⟩ := hw
      refine lv_icmp_gt (tgt := 19) hx hb dX12_orders_6 (by decide) (fun c_1 => ?_) (fun c_1 => ?_)
      · have hw := hc_1t c_1
        clear hc_1t hc_1f
        refine lv_iload_n hx hb dX12_orders_19 rfl (lv_at hl 1 rfl) ?_
        exact W.iret (v := x1) hx hb hr (fun t ht hW => ⟨⟨x1, S, rfl, hw, by rw [ht]; exact hP, va_K.moved hW.alike hK, hD⟩, hS.F ht⟩) hS.2.2 dX12_orders_20
      · have hw := hc_1f c_1
        clear hc_1t hc_1f
        refine lv_iload_n hx hb dX12_orders_9 rfl (lv_at hl 1 rfl) ?_
        refine lv_iload_n hx hb dX12_orders_10 rfl (lv_at hl 2 rfl) ?_
        refine lv_imul hx hb dX12_orders_11 ?_
        refine lv_istore_n (lv' := [(1, .int (x1 * x2)), (0, .int x0), (2, .int x2)]) hx hb dX12_orders_12 rfl hl (by decide) rfl (fun ls hl => ?_)
        refine lv_iinc (v := x2 + 1) (lv' := [(2, .int (x2 + 1)), (1, .int (x1 * x2)), (0, .int x0)]) hx hb dX12_orders_13 hl (k := 2) rfl (k_inc (by decide)) (by decide) rfl (fun ls hl => ?_)
        refine lv_goto (tgt := 4) hx hb dX12_orders_16 (by decide) ?_
        exact ih_4 x0 (x1 * x2) (x2 + 1) S _ _ _ hw hP hD hS (lv_sub hl [2, 1, 0] rfl)
  refine lv_iconst (v := 1) hx hb dX12_orders_0 (by decide) ?_
  refine lv_istore_n (lv' := [(1, .int 1), (0, .int p1)]) hx hb dX12_orders_1 rfl hl (by decide) rfl (fun ls hl => ?_)
  refine lv_iconst (v := 2) hx hb dX12_orders_2 (by decide) ?_
  refine lv_istore_n (lv' := [(2, .int 2), (1, .int 1), (0, .int p1)]) hx hb dX12_orders_3 rfl hl (by decide) rfl (fun ls hl => ?_)
  obtain ⟨n_4, hw⟩ := hw
  exact L_4 n_4 p1 1 2 S _ _ _ hw hP hD hS (lv_sub hl [2, 1, 0] rfl)
def wM_worth (p1 : Int32) (p2 : Int32) (S : MS) (post : Int32 → MS → Prop) : Prop := wM_isIn p1 1 15 S (fun r_1 S_2 => ((r_1 = 0 → post 0 S_2) ∧ (¬ (r_1 = 0) → wM_isIn p2 0 999 S_2 (fun r_4 S_5 => ((r_4 = 0 → post 0 S_5) ∧ (¬ (r_4 = 0) → (vp_in (167 + p1) 2454 ∧ ∀ S_7 : MS, S_7 = (ms_set_a S_5 (upd (ms_a S_5) ((167 + p1).toNatClampNeg) p2)) → post 1 S_7)))))))
set_option maxHeartbeats 4000000 in
set_option maxRecDepth 100000 in
theorem cM_worth (l : Launch) (D : va_G) (h : Nat → Nat) (cy : Nat → ClassId) (p1 : Int32) (p2 : Int32) (S : MS) (post : Int32 → MS → Prop) (hw : wM_worth p1 p2 S post) : k_Mi l yX12_worth wsX12_worth { frames := 1, cells := 0, slots := 0, locals := 22 } D (tyM cy) (wM h cy) [.ref (h 31), .int p1, .int p2] S post := by
  intro sz
  refine Met.ofW (cc := cX12_worth) (maxL := 3) (ret := (some .boolean)) (by decide) rfl ?_
  intro p e s m args below meth c s₁ B hml hv
  obtain ⟨rfl, hsz, hP, hK, hD0⟩ := hv
  have hx := B.exec
  have hb := B.bytes
  have hr := B.returns
  have hts := atoms_spec (ws := wsX12_worth) B.pre
  have hown : s.vm.findClass RX12 = some m.cls := findClass_of_methodNamed B.named
  have hlocks := B.notSynchronized
  subst hsz
  have hD := hD0.self (sz := s.heap.size)
  generalize hAe : va_A (wM h cy S) s.heap.size = A at hD ⊢
  have hA : ∀ q : Nat, s.heap.size ≤ q → A q := fun q h => by rw [← hAe]; exact Or.inr h
  have hS : va_S A s.heap s.heap [] := va_S.rf
  have hin : ∀ w ∈ wsX120, w ∈ wsX12_worth := fun _ h => List.mem_cons_of_mem _ (List.mem_append_right _ h)
  have w7 := hts (.fieldLink RX12 7 "ClownsMournModel" "a" "[I") (List.mem_of_getElem? (i := 1) rfl)
  have hl := lv_entry ([.ref (h 31), .int p1, .int p2]) (n := 3) (Nat.le_of_ble_eq_true rfl)
  rw [lg_entry_eq]
  generalize (lg_sl ([.ref (h 31), .int p1, .int p2]) ++ List.replicate (3 - (lg_sl ([.ref (h 31), .int p1, .int p2])).length) Slot.unset).toArray = ls at hl ⊢
  have hl : lv_has ls 3 [(0, .ref (h 31)), (1, .int p1), (2, .int p2)] := hl
  unfold wM_worth at hw
  clear hD0
  refine lv_iload_n hx hb dX12_worth_0 rfl (lv_at hl 1 rfl) ?_
  refine lv_iconst (v := 1) hx hb dX12_worth_1 (by decide) ?_
  refine lv_bipush (v := 15) hx hb dX12_worth_2 (by decide) ?_
  refine k_callSi (As := [.int p1, .int 1, .int 15]) (rest := []) ⟨hx, hb, hml, hown, hts⟩ (cM_isIn l D h cy _ _ _ _ _ hw) (va_cwS 3 hts gX12_worth_X12_isIn rfl rfl rfl (by decide +kernel) ⟨Nat.le_of_ble_eq_true rfl, Nat.le_of_ble_eq_true rfl⟩) hK hP hD hS hA rfl hl.1 rfl (Nat.le_of_ble_eq_true rfl) dX12_worth_4 ⟨Nat.zero_le _, Nat.zero_le _⟩ (fun r_1 S_2 H locs hw hP hD hS => ?_)
  obtain ⟨hc_3t, hc_3f⟩ := hw
  refine lv_if_eq (tgt := 21) hx hb dX12_worth_7 (by decide) (fun c_3 => ?_) (fun c_3 => ?_)
  · have hw := hc_3t c_3
    clear hc_3t hc_3f
    refine lv_iconst (v := 0) hx hb dX12_worth_21 (by decide) ?_
    exact W.zret (v := 0) hx hb hr (by decide +kernel) (fun t ht hW => ⟨⟨0, S_2, rfl, hw, by rw [ht]; exact hP, va_K.moved hW.alike hK, hD⟩, hS.F ht⟩) hS.2.2 dX12_worth_22
  · have hw := hc_3f c_3
    clear hc_3t hc_3f
    refine lv_iload_n hx hb dX12_worth_10 rfl (lv_at hl 2 rfl) ?_
    refine lv_iconst (v := 0) hx hb dX12_worth_11 (by decide) ?_
    refine lv_sipush (v := 999) hx hb dX12_worth_12 (by decide) ?_
    refine k_callSi (As := [.int p2, .int 0, .int 999]) (rest := []) ⟨hx, hb, hml, hown, hts⟩ (cM_isIn l D h cy _ _ _ _ _ hw) (va_cwS 3 hts gX12_worth_X12_isIn rfl rfl rfl (by decide +kernel) ⟨Nat.le_of_ble_eq_true rfl, Nat.le_of_ble_eq_true rfl⟩) hK hP hD hS hA rfl hl.1 rfl (Nat.le_of_ble_eq_true rfl) dX12_worth_15 ⟨Nat.zero_le _, Nat.zero_le _⟩ (fun r_4 S_5 H locs hw hP hD hS => ?_)
    obtain ⟨hc_6t, hc_6f⟩ := hw
    refine lv_if_ne (tgt := 23) hx hb dX12_worth_18 (by decide) (fun c_6 => ?_) (fun c_6 => ?_)
    · have hw := hc_6f c_6
      clear hc_6t hc_6f
      refine lv_aload_n hx hb dX12_worth_23 rfl (lv_at hl 0 rfl) ?_
      refine va_get (D := D) (ci := 11) (v := .ref (h 0)) (C := RX12) (T := TX12) (N := 31) hx hb hts hin hown hK hP 0 rfl rfl 0 (by decide) w7 (fun _ h9 => h9) rfl dX12_worth_24 ?_
      refine lv_sipush (v := 167) hx hb dX12_worth_27 (by decide) ?_
      refine lv_iload_n hx hb dX12_worth_30 rfl (lv_at hl 1 rfl) ?_
      refine lv_iadd hx hb dX12_worth_31 ?_
      refine lv_iload_n hx hb dX12_worth_32 rfl (lv_at hl 2 rfl) ?_
      obtain ⟨hi_8, hw⟩ := hw
      refine va_iast (f := (ms_a S_5)) hx hb hK hP hD hS 1 0 rfl rfl hi_8 dX12_worth_33 (fun H locs hP hD hS => ?_)
      obtain ⟨S_7, eS_7⟩ : ∃ z : MS, z = (ms_set_a S_5 (upd (ms_a S_5) ((167 + p1).toNatClampNeg) p2)) := ⟨_, rfl⟩
      have hw := hw S_7 eS_7
      have hP : va_P D vwCl (wM h cy S_7) H := by rw [eS_7, ← wMs_a]; exact hP
      have hD : va_D A (wM h cy S_7) := by rw [eS_7, ← wMs_a]; exact hD
      refine lv_iconst (v := 1) hx hb dX12_worth_34 (by decide) ?_
      exact W.zret (v := 1) hx hb hr (by decide +kernel) (fun t ht hW => ⟨⟨1, S_7, rfl, hw, by rw [ht]; exact hP, va_K.moved hW.alike hK, hD⟩, hS.F ht⟩) hS.2.2 dX12_worth_35
    · have hw := hc_6t c_6
      clear hc_6t hc_6f
      refine lv_iconst (v := 0) hx hb dX12_worth_21 (by decide) ?_
      exact W.zret (v := 0) hx hb hr (by decide +kernel) (fun t ht hW => ⟨⟨0, S_5, rfl, hw, by rw [ht]; exact hP, va_K.moved hW.alike hK, hD⟩, hS.F ht⟩) hS.2.2 dX12_worth_22
def wM_share_125 (post : Int32 → MS → Prop) (x4 : Int32) (x5 : Int32) (t0 : Int32) (S : MS) : Prop := wM_common (Int32.toInt64 x4) (Int32.toInt64 x5) S (fun r_1 S_2 => (¬ (Int64.toInt32 r_1) = 0 ∧ post (t0 / (Int64.toInt32 r_1)) S_2))
def wM_share_28 (post : Int32 → MS → Prop) : Nat → Int32 → Int32 → Int32 → Int32 → Int32 → MS → Prop
  | 0, _, _, _, _, _, _ => False
  | n + 1, x1, x2, x3, x4, x5, S => (((k_shl 1 x2) ≤ x5 → wM_orders x2 S (fun r_2 S_3 => ((x3 = 0 → wM_share_125 post x4 r_2 x4 S_3) ∧ (¬ (x3 = 0) → wM_share_125 post x4 r_2 r_2 S_3)))) ∧ (¬ ((k_shl 1 x2) ≤ x5) → wM_has x5 x1 S (fun r_5 S_6 => ((r_5 = 0 → wM_bits x5 S_6 (fun r_8 S_9 => wM_orders r_8 S_9 (fun r_10 S_11 => wM_bits x5 S_11 (fun r_12 S_13 => wM_orders ((x2 - 1) - r_12) S_13 (fun r_14 S_15 => (vp_in (167 + (x5 ||| (k_shl 1 x1))) 2454 ∧ (vp_in (167 + x5) 2454 ∧ wM_share_28 post n x1 x2 x3 (x4 + ((r_10 * r_14) * (((ms_a S_15) (167 + (x5 ||| (k_shl 1 x1))).toNatClampNeg) - ((ms_a S_15) (167 + x5).toNatClampNeg)))) (x5 + 1) S_15))))))) ∧ (¬ (r_5 = 0) → wM_share_28 post n x1 x2 x3 x4 (x5 + 1) S_6)))))
def wM_share (p1 : Int32) (p2 : Int32) (p3 : Int32) (S : MS) (post : Int32 → MS → Prop) : Prop := wM_isIn p2 1 4 S (fun r_1 S_2 => ((r_1 = 0 → post (-1) S_2) ∧ (¬ (r_1 = 0) → wM_isIn p1 0 (p2 - 1) S_2 (fun r_4 S_5 => ((r_4 = 0 → post (-1) S_5) ∧ (¬ (r_4 = 0) → ∃ k_ : Nat, wM_share_28 post k_ p1 p2 p3 0 0 S_5))))))
set_option maxHeartbeats 4000000 in
set_option maxRecDepth 100000 in
theorem cM_share (l : Launch) (D : va_G) (h : Nat → Nat) (cy : Nat → ClassId) (p1 : Int32) (p2 : Int32) (p3 : Int32) (S : MS) (post : Int32 → MS → Prop) (hw : wM_share p1 p2 p3 S post) : k_Mi l yX12_share wsX12_share { frames := 1, cells := 0, slots := 0, locals := 29 } D (tyM cy) (wM h cy) [.ref (h 31), .int p1, .int p2, .int p3] S post := by
  intro sz
  refine Met.ofW (cc := cX12_share) (maxL := 6) (ret := (some .int)) (by decide) rfl ?_
  intro p e s m args below meth c s₁ B hml hv
  obtain ⟨rfl, hsz, hP, hK, hD0⟩ := hv
  have hx := B.exec
  have hb := B.bytes
  have hr := B.returns
  have hts := atoms_spec (ws := wsX12_share) B.pre
  have hown : s.vm.findClass RX12 = some m.cls := findClass_of_methodNamed B.named
  have hlocks := B.notSynchronized
  subst hsz
  have hD := hD0.self (sz := s.heap.size)
  generalize hAe : va_A (wM h cy S) s.heap.size = A at hD ⊢
  have hA : ∀ q : Nat, s.heap.size ≤ q → A q := fun q h => by rw [← hAe]; exact Or.inr h
  have hS : va_S A s.heap s.heap [] := va_S.rf
  have hin : ∀ w ∈ wsX120, w ∈ wsX12_share := fun _ h => List.mem_cons_of_mem _ (List.mem_append_right _ h)
  have w7 := hts (.fieldLink RX12 7 "ClownsMournModel" "a" "[I") (List.mem_of_getElem? (i := 1) rfl)
  have hl := lv_entry ([.ref (h 31), .int p1, .int p2, .int p3]) (n := 6) (Nat.le_of_ble_eq_true rfl)
  rw [lg_entry_eq]
  generalize (lg_sl ([.ref (h 31), .int p1, .int p2, .int p3]) ++ List.replicate (6 - (lg_sl ([.ref (h 31), .int p1, .int p2, .int p3])).length) Slot.unset).toArray = ls at hl ⊢
  have hl : lv_has ls 6 [(0, .ref (h 31)), (1, .int p1), (2, .int p2), (3, .int p3)] := hl
  unfold wM_share at hw
  clear hD0
  have J_125 : ∀ (x4 : Int32) (x5 : Int32) (t0 : Int32) (S : MS) (H : Heap) (locs : List Loc) (ls : Array Slot), wM_share_125 post x4 x5 t0 S → va_P D vwCl (wM h cy S) H → va_D A (wM h cy S) → va_S A s.heap H locs → lv_has ls 6 [(4, .int x4), (5, .int x5)] → W p l e (headSpec wsX12_share { frames := 1, cells := 0, slots := 0, locals := 29 }).room s m (([.ref (h 31), .int p1, .int p2, .int p3] : List Value).toArray) below meth c H locs 0 0 (MQ below (va_Qi post (k_Post D (tyM cy) (wM h cy) A) A) (([.ref (h 31), .int p1, .int p2, .int p3] : List Value).toArray) s 0 0 A) (F0 m 125 ls [.int t0]) := by
    intro x4 x5 t0 S H locs ls hw hP hD hS hl
    unfold wM_share_125 at hw
    refine lv_iload hx hb dX12_share_125 (lv_at hl 0 rfl) ?_
    refine lv_i2l (v := Int32.toInt64 x4) hx hb dX12_share_127 rfl ?_
    refine lv_iload hx hb dX12_share_128 (lv_at hl 1 rfl) ?_
    refine lv_i2l (v := Int32.toInt64 x5) hx hb dX12_share_130 rfl ?_
    refine k_callSl (As := [.long (Int32.toInt64 x4), .long (Int32.toInt64 x5)]) (rest := [.int t0]) ⟨hx, hb, hml, hown, hts⟩ (cM_common l D h cy _ _ _ _ hw) (va_cwS 2 hts gX12_share_X12_common rfl rfl rfl (by decide +kernel) ⟨Nat.le_of_ble_eq_true rfl, Nat.le_of_ble_eq_true rfl⟩) hK hP hD hS hA rfl hl.1 rfl (Nat.le_of_ble_eq_true rfl) dX12_share_131 ⟨Nat.zero_le _, Nat.zero_le _⟩ (fun r_1 S_2 H locs hw hP hD hS => ?_)
    refine lv_l2i (v := Int64.toInt32 r_1) hx hb dX12_share_134 rfl ?_
    obtain ⟨hz_3, hw⟩ := hw
    refine lv_idiv hx hb dX12_share_135 hz_3 ?_
    exact W.iret (v := t0 / (Int64.toInt32 r_1)) hx hb hr (fun t ht hW => ⟨⟨t0 / (Int64.toInt32 r_1), S_2, rfl, hw, by rw [ht]; exact hP, va_K.moved hW.alike hK, hD⟩, hS.F ht⟩) hS.2.2 dX12_share_136
  have L_28 : ∀ (n28 : Nat) (x1 : Int32) (x2 : Int32) (x3 : Int32) (x4 : Int32) (x5 : Int32) (S : MS) (H : Heap) (locs : List Loc) (ls : Array Slot), wM_share_28 post n28 x1 x2 x3 x4 x5 S → va_P D vwCl (wM h cy S) H → va_D A (wM h cy S) → va_S A s.heap H locs → lv_has ls 6 [(0, .ref (h 31)), (1, .int x1), (2, .int x2), (3, .int x3), (4, .int x4), (5, .int x5)] → W p l e (headSpec wsX12_share { frames := 1, cells := 0, slots := 0, locals := 29 }).room s m (([.ref (h 31), .int p1, .int p2, .int p3] : List Value).toArray) below meth c H locs 0 0 (MQ below (va_Qi post (k_Post D (tyM cy) (wM h cy) A) A) (([.ref (h 31), .int p1, .int p2, .int p3] : List Value).toArray) s 0 0 A) (F0 m 28 ls []) := by
    intro n28
    induction n28 with
    | zero => intro x1 x2 x3 x4 x5 S H locs ls hw; exact False.elim hw
    | succ n28 ih_28 =>
      intro x1 x2 x3 x4 x5 S H locs ls hw hP hD hS hl
      unfold wM_share_28 at hw
      refine lv_iload hx hb dX12_share_28 (lv_at hl 5 rfl) ?_
      refine lv_iconst (v := 1) hx hb dX12_share_30 (by decide) ?_
      refine lv_iload_n hx hb dX12_share_31 rfl (lv_at hl 2 rfl) ?_
      refine k_ishl hx hb dX12_share_32 ?_
      obtain ⟨hc_4t, hc_4f⟩ := hw
      refine lv_icmp_ge (tgt := 108) hx hb dX12_share_33 (by decide) (fun c_4 => ?_) (fun c_4 => ?_)
      · have hw := hc_4t c_4
        clear hc_4t hc_4f
        refine lv_iload_n hx hb dX12_share_108 rfl (lv_at hl 2 rfl) ?_
        refine k_callSi (As := [.int x2]) (rest := []) ⟨hx, hb, hml, hown, hts⟩ (cM_orders l D h cy _ _ _ hw) (va_cwS 1 hts gX12_share_X12_orders rfl rfl rfl (by decide +kernel) ⟨Nat.le_of_ble_eq_true rfl, Nat.le_of_ble_eq_true rfl⟩) hK hP hD hS hA rfl hl.1 rfl (Nat.le_of_ble_eq_true rfl) dX12_share_109 ⟨Nat.zero_le _, Nat.zero_le _⟩ (fun r_5 S_6 H locs hw hP hD hS => ?_)
        refine lv_istore (lv' := [(5, .int r_5), (0, .ref (h 31)), (1, .int x1), (2, .int x2), (3, .int x3), (4, .int x4)]) hx hb dX12_share_112 hl (by decide) rfl (fun ls hl => ?_)
        refine lv_iload_n hx hb dX12_share_114 rfl (lv_at hl 4 rfl) ?_
        obtain ⟨hc_7t, hc_7f⟩ := hw
        refine lv_if_eq (tgt := 123) hx hb dX12_share_115 (by decide) (fun c_7 => ?_) (fun c_7 => ?_)
        · have hw := hc_7t c_7
          clear hc_7t hc_7f
          refine lv_iload hx hb dX12_share_123 (lv_at hl 5 rfl) ?_
          exact J_125 x4 r_5 x4 S_6 _ _ _ hw hP hD hS (lv_sub hl [5, 0] rfl)
        · have hw := hc_7f c_7
          clear hc_7t hc_7f
          refine lv_iload hx hb dX12_share_118 (lv_at hl 0 rfl) ?_
          refine lv_goto (tgt := 125) hx hb dX12_share_120 (by decide) ?_
          exact J_125 x4 r_5 r_5 S_6 _ _ _ hw hP hD hS (lv_sub hl [5, 0] rfl)
      · have hw := hc_4f c_4
        clear hc_4t hc_4f
        refine lv_iload hx hb dX12_share_36 (lv_at hl 5 rfl) ?_
        refine lv_iload_n hx hb dX12_share_38 rfl (lv_at hl 1 rfl) ?_
        refine k_callSi (As := [.int x5, .int x1]) (rest := []) ⟨hx, hb, hml, hown, hts⟩ (cM_has l D h cy _ _ _ _ hw) (va_cwS 2 hts gX12_share_X12_has rfl rfl rfl (by decide +kernel) ⟨Nat.le_of_ble_eq_true rfl, Nat.le_of_ble_eq_true rfl⟩) hK hP hD hS hA rfl hl.1 rfl (Nat.le_of_ble_eq_true rfl) dX12_share_39 ⟨Nat.zero_le _, Nat.zero_le _⟩ (fun r_8 S_9 H locs hw hP hD hS => ?_)
        obtain ⟨hc_10t, hc_10f⟩ := hw
        refine lv_if_eq (tgt := 48) hx hb dX12_share_42 (by decide) (fun c_10 => ?_) (fun c_10 => ?_)
        · have hw := hc_10t c_10
          clear hc_10t hc_10f
          refine lv_iload hx hb dX12_share_48 (lv_at hl 4 rfl) ?_
          refine lv_iload hx hb dX12_share_50 (lv_at hl 5 rfl) ?_
          refine k_callSi (As := [.int x5]) (rest := [.int x4]) ⟨hx, hb, hml, hown, hts⟩ (cM_bits l D h cy _ _ _ hw) (va_cwS 1 hts gX12_share_X12_bits rfl rfl rfl (by decide +kernel) ⟨Nat.le_of_ble_eq_true rfl, Nat.le_of_ble_eq_true rfl⟩) hK hP hD hS hA rfl hl.1 rfl (Nat.le_of_ble_eq_true rfl) dX12_share_52 ⟨Nat.zero_le _, Nat.zero_le _⟩ (fun r_11 S_12 H locs hw hP hD hS => ?_)
          refine k_callSi (As := [.int r_11]) (rest := [.int x4]) ⟨hx, hb, hml, hown, hts⟩ (cM_orders l D h cy _ _ _ hw) (va_cwS 1 hts gX12_share_X12_orders rfl rfl rfl (by decide +kernel) ⟨Nat.le_of_ble_eq_true rfl, Nat.le_of_ble_eq_true rfl⟩) hK hP hD hS hA rfl hl.1 rfl (Nat.le_of_ble_eq_true rfl) dX12_share_55 ⟨Nat.zero_le _, Nat.zero_le _⟩ (fun r_13 S_14 H locs hw hP hD hS => ?_)
          refine lv_iload_n hx hb dX12_share_58 rfl (lv_at hl 2 rfl) ?_
          refine lv_iconst (v := 1) hx hb dX12_share_59 (by decide) ?_
          refine lv_isub hx hb dX12_share_60 ?_
          refine lv_iload hx hb dX12_share_61 (lv_at hl 5 rfl) ?_
          refine k_callSi (As := [.int x5]) (rest := [.int (x2 - 1), .int r_13, .int x4]) ⟨hx, hb, hml, hown, hts⟩ (cM_bits l D h cy _ _ _ hw) (va_cwS 1 hts gX12_share_X12_bits rfl rfl rfl (by decide +kernel) ⟨Nat.le_of_ble_eq_true rfl, Nat.le_of_ble_eq_true rfl⟩) hK hP hD hS hA rfl hl.1 rfl (Nat.le_of_ble_eq_true rfl) dX12_share_63 ⟨Nat.zero_le _, Nat.zero_le _⟩ (fun r_15 S_16 H locs hw hP hD hS => ?_)
          refine lv_isub hx hb dX12_share_66 ?_
          refine k_callSi (As := [.int ((x2 - 1) - r_15)]) (rest := [.int r_13, .int x4]) ⟨hx, hb, hml, hown, hts⟩ (cM_orders l D h cy _ _ _ hw) (va_cwS 1 hts gX12_share_X12_orders rfl rfl rfl (by decide +kernel) ⟨Nat.le_of_ble_eq_true rfl, Nat.le_of_ble_eq_true rfl⟩) hK hP hD hS hA rfl hl.1 rfl (Nat.le_of_ble_eq_true rfl) dX12_share_67 ⟨Nat.zero_le _, Nat.zero_le _⟩ (fun r_17 S_18 H locs hw hP hD hS => ?_)
          refine lv_imul hx hb dX12_share_70 ?_
          refine lv_aload_n hx hb dX12_share_71 rfl (lv_at hl 0 rfl) ?_
          refine va_get (D := D) (ci := 11) (v := .ref (h 0)) (C := RX12) (T := TX12) (N := 31) hx hb hts hin hown hK hP 0 rfl rfl 0 (by decide) w7 (fun _ h9 => h9) rfl dX12_share_72 ?_
          refine lv_sipush (v := 167) hx hb dX12_share_75 (by decide) ?_
          refine lv_iload hx hb dX12_share_78 (lv_at hl 5 rfl) ?_
          refine lv_iconst (v := 1) hx hb dX12_share_80 (by decide) ?_
          refine lv_iload_n hx hb dX12_share_81 rfl (lv_at hl 1 rfl) ?_
          refine k_ishl hx hb dX12_share_82 ?_
          refine lv_ior hx hb dX12_share_83 ?_
          refine lv_iadd hx hb dX12_share_84 ?_
          obtain ⟨hi_20, hw⟩ := hw
          refine va_iald (f := (ms_a S_18)) hx hb hK hP 1 0 rfl rfl hi_20 dX12_share_85 ?_
          refine lv_aload_n hx hb dX12_share_86 rfl (lv_at hl 0 rfl) ?_
          refine va_get (D := D) (ci := 11) (v := .ref (h 0)) (C := RX12) (T := TX12) (N := 31) hx hb hts hin hown hK hP 0 rfl rfl 0 (by decide) w7 (fun _ h9 => h9) rfl dX12_share_87 ?_
          refine lv_sipush (v := 167) hx hb dX12_share_90 (by decide) ?_
          refine lv_iload hx hb dX12_share_93 (lv_at hl 5 rfl) ?_
          refine lv_iadd hx hb dX12_share_95 ?_
          obtain ⟨hi_19, hw⟩ := hw
          refine va_iald (f := (ms_a S_18)) hx hb hK hP 1 0 rfl rfl hi_19 dX12_share_96 ?_
          refine lv_isub hx hb dX12_share_97 ?_
          refine lv_imul hx hb dX12_share_98 ?_
          refine lv_iadd hx hb dX12_share_99 ?_
          refine lv_istore (lv' := [(4, .int (x4 + ((r_13 * r_17) * (((ms_a S_18) (167 + (x5 ||| (k_shl 1 x1))).toNatClampNeg) - ((ms_a S_18) (167 + x5).toNatClampNeg))))), (0, .ref (h 31)), (1, .int x1), (2, .int x2), (3, .int x3), (5, .int x5)]) hx hb dX12_share_100 hl (by decide) rfl (fun ls hl => ?_)
          refine lv_iinc (v := x5 + 1) (lv' := [(5, .int (x5 + 1)), (4, .int (x4 + ((r_13 * r_17) * (((ms_a S_18) (167 + (x5 ||| (k_shl 1 x1))).toNatClampNeg) - ((ms_a S_18) (167 + x5).toNatClampNeg))))), (0, .ref (h 31)), (1, .int x1), (2, .int x2), (3, .int x3)]) hx hb dX12_share_102 hl (k := 5) rfl (k_inc (by decide)) (by decide) rfl (fun ls hl => ?_)
          refine lv_goto (tgt := 28) hx hb dX12_share_105 (by decide) ?_
          exact ih_28 x1 x2 x3 (x4 + ((r_13 * r_17) * (((ms_a S_18) (167 + (x5 ||| (k_shl 1 x1))).toNatClampNeg) - ((ms_a S_18) (167 + x5).toNatClampNeg)))) (x5 + 1) S_18 _ _ _ hw hP hD hS (lv_sub hl [2, 3, 4, 5, 1, 0] rfl)
        · have hw := hc_10f c_10
          clear hc_10t hc_10f
          refine lv_goto (tgt := 102) hx hb dX12_share_45 (by decide) ?_
          refine lv_iinc (v := x5 + 1) (lv' := [(5, .int (x5 + 1)), (0, .ref (h 31)), (1, .int x1), (2, .int x2), (3, .int x3), (4, .int x4)]) hx hb dX12_share_102 hl (k := 5) rfl (k_inc (by decide)) (by decide) rfl (fun ls hl => ?_)
          refine lv_goto (tgt := 28) hx hb dX12_share_105 (by decide) ?_
          exact ih_28 x1 x2 x3 x4 (x5 + 1) S_9 _ _ _ hw hP hD hS (lv_sub hl [1, 2, 3, 4, 5, 0] rfl)
  refine lv_iload_n hx hb dX12_share_0 rfl (lv_at hl 2 rfl) ?_
  refine lv_iconst (v := 1) hx hb dX12_share_1 (by decide) ?_
  refine lv_iconst (v := 4) hx hb dX12_share_2 (by decide) ?_
  refine k_callSi (As := [.int p2, .int 1, .int 4]) (rest := []) ⟨hx, hb, hml, hown, hts⟩ (cM_isIn l D h cy _ _ _ _ _ hw) (va_cwS 3 hts gX12_share_X12_isIn rfl rfl rfl (by decide +kernel) ⟨Nat.le_of_ble_eq_true rfl, Nat.le_of_ble_eq_true rfl⟩) hK hP hD hS hA rfl hl.1 rfl (Nat.le_of_ble_eq_true rfl) dX12_share_3 ⟨Nat.zero_le _, Nat.zero_le _⟩ (fun r_21 S_22 H locs hw hP hD hS => ?_)
  obtain ⟨hc_23t, hc_23f⟩ := hw
  refine lv_if_eq (tgt := 20) hx hb dX12_share_6 (by decide) (fun c_23 => ?_) (fun c_23 => ?_)
  · have hw := hc_23t c_23
    clear hc_23t hc_23f
    refine lv_iconst (v := (-1)) hx hb dX12_share_20 (by decide) ?_
    exact W.iret (v := (-1)) hx hb hr (fun t ht hW => ⟨⟨(-1), S_22, rfl, hw, by rw [ht]; exact hP, va_K.moved hW.alike hK, hD⟩, hS.F ht⟩) hS.2.2 dX12_share_21
  · have hw := hc_23f c_23
    clear hc_23t hc_23f
    refine lv_iload_n hx hb dX12_share_9 rfl (lv_at hl 1 rfl) ?_
    refine lv_iconst (v := 0) hx hb dX12_share_10 (by decide) ?_
    refine lv_iload_n hx hb dX12_share_11 rfl (lv_at hl 2 rfl) ?_
    refine lv_iconst (v := 1) hx hb dX12_share_12 (by decide) ?_
    refine lv_isub hx hb dX12_share_13 ?_
    refine k_callSi (As := [.int p1, .int 0, .int (p2 - 1)]) (rest := []) ⟨hx, hb, hml, hown, hts⟩ (cM_isIn l D h cy _ _ _ _ _ hw) (va_cwS 3 hts gX12_share_X12_isIn rfl rfl rfl (by decide +kernel) ⟨Nat.le_of_ble_eq_true rfl, Nat.le_of_ble_eq_true rfl⟩) hK hP hD hS hA rfl hl.1 rfl (Nat.le_of_ble_eq_true rfl) dX12_share_14 ⟨Nat.zero_le _, Nat.zero_le _⟩ (fun r_24 S_25 H locs hw hP hD hS => ?_)
    obtain ⟨hc_26t, hc_26f⟩ := hw
    refine lv_if_ne (tgt := 22) hx hb dX12_share_17 (by decide) (fun c_26 => ?_) (fun c_26 => ?_)
    · have hw := hc_26f c_26
      clear hc_26t hc_26f
      refine lv_iconst (v := 0) hx hb dX12_share_22 (by decide) ?_
      refine lv_istore (lv' := [(4, .int 0), (0, .ref (h 31)), (1, .int p1), (2, .int p2), (3, .int p3)]) hx hb dX12_share_23 hl (by decide) rfl (fun ls hl => ?_)
      refine lv_iconst (v := 0) hx hb dX12_share_25 (by decide) ?_
      refine lv_istore (lv' := [(5, .int 0), (4, .int 0), (0, .ref (h 31)), (1, .int p1), (2, .int p2), (3, .int p3)]) hx hb dX12_share_26 hl (by decide) rfl (fun ls hl => ?_)
      obtain ⟨n_28, hw⟩ := hw
      exact L_28 n_28 p1 p2 p3 0 0 S_25 _ _ _ hw hP hD hS (lv_sub hl [2, 3, 4, 5, 1, 0] rfl)
    · have hw := hc_26t c_26
      clear hc_26t hc_26f
      refine lv_iconst (v := (-1)) hx hb dX12_share_20 (by decide) ?_
      exact W.iret (v := (-1)) hx hb hr (fun t ht hW => ⟨⟨(-1), S_25, rfl, hw, by rw [ht]; exact hP, va_K.moved hW.alike hK, hD⟩, hS.F ht⟩) hS.2.2 dX12_share_21
def wM_meanOf_14 (post : Int64 → MS → Prop) : Nat → Int32 → Int32 → Int32 → Int32 → Int64 → Int64 → Int64 → Int32 → MS → Prop
  | 0, _, _, _, _, _, _, _, _, _ => False
  | n + 1, x0, x1, x2, x3, x4, x6, x8, x10, S => ((x3 < x10 → post x4 S) ∧ (¬ (x3 < x10) → wM_meanOf_14 post n x0 x1 x2 x3 (x4 + ((x6 * ((Int32.toInt64 (x0 * x1)) - ((10 * (Int32.toInt64 x10)) * (Int32.toInt64 x2)))) * x8)) (x6 * (Int32.toInt64 (10 - x0))) (x8 / 10) (x10 + 1) S))
def wM_meanOf (p1 : Int32) (p2 : Int32) (p3 : Int32) (p4 : Int32) (S : MS) (post : Int64 → MS → Prop) : Prop := ∃ k_ : Nat, wM_meanOf_14 post k_ p1 p2 p3 p4 0 1 100000 1 S
set_option maxHeartbeats 4000000 in
set_option maxRecDepth 100000 in
theorem cM_meanOf (l : Launch) (D : va_G) (h : Nat → Nat) (cy : Nat → ClassId) (p1 : Int32) (p2 : Int32) (p3 : Int32) (p4 : Int32) (S : MS) (post : Int64 → MS → Prop) (hw : wM_meanOf p1 p2 p3 p4 S post) : k_Ml l yX12_meanOf wsX12_meanOf { frames := 0, cells := 0, slots := 0, locals := 0 } D (tyM cy) (wM h cy) [.int p1, .int p2, .int p3, .int p4] S post := by
  intro sz
  refine Met.ofW (cc := cX12_meanOf) (maxL := 11) (ret := (some .long)) (by decide) rfl ?_
  intro p e s m args below meth c s₁ B hml hv
  obtain ⟨rfl, hsz, hP, hK, hD0⟩ := hv
  have hx := B.exec
  have hb := B.bytes
  have hr := B.returns
  have hts := atoms_spec (ws := wsX12_meanOf) B.pre
  have hown : s.vm.findClass RX12 = some m.cls := findClass_of_methodNamed B.named
  have hlocks := B.notSynchronized
  subst hsz
  have hD := hD0.self (sz := s.heap.size)
  generalize hAe : va_A (wM h cy S) s.heap.size = A at hD ⊢
  have hA : ∀ q : Nat, s.heap.size ≤ q → A q := fun q h => by rw [← hAe]; exact Or.inr h
  have hS : va_S A s.heap s.heap [] := va_S.rf
  have wc461 := hts (.constantLong RX12 461 (100000)) (List.mem_of_getElem? (i := 1) rfl)
  have wc463 := hts (.constantLong RX12 463 (10)) (List.mem_of_getElem? (i := 2) rfl)
  have hl := lv_entry ([.int p1, .int p2, .int p3, .int p4]) (n := 11) (Nat.le_of_ble_eq_true rfl)
  rw [lg_entry_eq]
  generalize (lg_sl ([.int p1, .int p2, .int p3, .int p4]) ++ List.replicate (11 - (lg_sl ([.int p1, .int p2, .int p3, .int p4])).length) Slot.unset).toArray = ls at hl ⊢
  have hl : lv_has ls 11 [(0, .int p1), (1, .int p2), (2, .int p3), (3, .int p4)] := hl
  unfold wM_meanOf at hw
  clear hD0
  have L_14 : ∀ (n14 : Nat) (x0 : Int32) (x1 : Int32) (x2 : Int32) (x3 : Int32) (x4 : Int64) (x6 : Int64) (x8 : Int64) (x10 : Int32) (S : MS) (H : Heap) (locs : List Loc) (ls : Array Slot), wM_meanOf_14 post n14 x0 x1 x2 x3 x4 x6 x8 x10 S → va_P D vwCl (wM h cy S) H → va_D A (wM h cy S) → va_S A s.heap H locs → lv_has ls 11 [(0, .int x0), (1, .int x1), (2, .int x2), (3, .int x3), (4, .long x4), (6, .long x6), (8, .long x8), (10, .int x10)] → W p l e (headSpec wsX12_meanOf { frames := 0, cells := 0, slots := 0, locals := 0 }).room s m (([.int p1, .int p2, .int p3, .int p4] : List Value).toArray) below meth c H locs 0 0 (MQ below (va_Ql post (k_Post D (tyM cy) (wM h cy) A) A) (([.int p1, .int p2, .int p3, .int p4] : List Value).toArray) s 0 0 A) (F0 m 14 ls []) := by
    intro n14
    induction n14 with
    | zero => intro x0 x1 x2 x3 x4 x6 x8 x10 S H locs ls hw; exact False.elim hw
    | succ n14 ih_14 =>
      intro x0 x1 x2 x3 x4 x6 x8 x10 S H locs ls hw hP hD hS hl
      unfold wM_meanOf_14 at hw
      refine lv_iload hx hb dX12_meanOf_14 (lv_at hl 7 rfl) ?_
      refine lv_iload_n hx hb dX12_meanOf_16 rfl (lv_at hl 3 rfl) ?_
      obtain ⟨hc_1t, hc_1f⟩ := hw
      refine lv_icmp_gt (tgt := 70) hx hb dX12_meanOf_17 (by decide) (fun c_1 => ?_) (fun c_1 => ?_)
      · have hw := hc_1t c_1
        clear hc_1t hc_1f
        refine lv_lload hx hb dX12_meanOf_70 (lv_at hl 4 rfl) ?_
        exact W.lret (v := x4) hx hb hr (fun t ht hW => ⟨⟨x4, S, rfl, hw, by rw [ht]; exact hP, va_K.moved hW.alike hK, hD⟩, hS.F ht⟩) hS.2.2 dX12_meanOf_72
      · have hw := hc_1f c_1
        clear hc_1t hc_1f
        refine lv_lload hx hb dX12_meanOf_20 (lv_at hl 4 rfl) ?_
        refine lv_lload hx hb dX12_meanOf_22 (lv_at hl 5 rfl) ?_
        refine lv_iload_n hx hb dX12_meanOf_24 rfl (lv_at hl 0 rfl) ?_
        refine lv_iload_n hx hb dX12_meanOf_25 rfl (lv_at hl 1 rfl) ?_
        refine lv_imul hx hb dX12_meanOf_26 ?_
        refine lv_i2l (v := Int32.toInt64 (x0 * x1)) hx hb dX12_meanOf_27 rfl ?_
        refine lv_ldc2 (v := 10) hx hb hown wc463 dX12_meanOf_28 ?_
        refine lv_iload hx hb dX12_meanOf_31 (lv_at hl 7 rfl) ?_
        refine lv_i2l (v := Int32.toInt64 x10) hx hb dX12_meanOf_33 rfl ?_
        refine lv_lmul hx hb dX12_meanOf_34 ?_
        refine lv_iload_n hx hb dX12_meanOf_35 rfl (lv_at hl 2 rfl) ?_
        refine lv_i2l (v := Int32.toInt64 x2) hx hb dX12_meanOf_36 rfl ?_
        refine lv_lmul hx hb dX12_meanOf_37 ?_
        refine lv_lsub hx hb dX12_meanOf_38 ?_
        refine lv_lmul hx hb dX12_meanOf_39 ?_
        refine lv_lload hx hb dX12_meanOf_40 (lv_at hl 6 rfl) ?_
        refine lv_lmul hx hb dX12_meanOf_42 ?_
        refine lv_ladd hx hb dX12_meanOf_43 ?_
        refine lv_lstore (lv' := [(4, .long (x4 + ((x6 * ((Int32.toInt64 (x0 * x1)) - ((10 * (Int32.toInt64 x10)) * (Int32.toInt64 x2)))) * x8))), (0, .int x0), (1, .int x1), (2, .int x2), (3, .int x3), (6, .long x6), (8, .long x8), (10, .int x10)]) hx hb dX12_meanOf_44 hl (by decide) rfl (fun ls hl => ?_)
        refine lv_lload hx hb dX12_meanOf_46 (lv_at hl 5 rfl) ?_
        refine lv_bipush (v := 10) hx hb dX12_meanOf_48 (by decide) ?_
        refine lv_iload_n hx hb dX12_meanOf_50 rfl (lv_at hl 1 rfl) ?_
        refine lv_isub hx hb dX12_meanOf_51 ?_
        refine lv_i2l (v := Int32.toInt64 (10 - x0)) hx hb dX12_meanOf_52 rfl ?_
        refine lv_lmul hx hb dX12_meanOf_53 ?_
        refine lv_lstore (lv' := [(6, .long (x6 * (Int32.toInt64 (10 - x0)))), (4, .long (x4 + ((x6 * ((Int32.toInt64 (x0 * x1)) - ((10 * (Int32.toInt64 x10)) * (Int32.toInt64 x2)))) * x8))), (0, .int x0), (1, .int x1), (2, .int x2), (3, .int x3), (8, .long x8), (10, .int x10)]) hx hb dX12_meanOf_54 hl (by decide) rfl (fun ls hl => ?_)
        refine lv_lload hx hb dX12_meanOf_56 (lv_at hl 6 rfl) ?_
        refine lv_ldc2 (v := 10) hx hb hown wc463 dX12_meanOf_58 ?_
        refine lv_ldiv hx hb dX12_meanOf_61 (by decide) ?_
        refine lv_lstore (lv' := [(8, .long (x8 / 10)), (6, .long (x6 * (Int32.toInt64 (10 - x0)))), (4, .long (x4 + ((x6 * ((Int32.toInt64 (x0 * x1)) - ((10 * (Int32.toInt64 x10)) * (Int32.toInt64 x2)))) * x8))), (0, .int x0), (1, .int x1), (2, .int x2), (3, .int x3), (10, .int x10)]) hx hb dX12_meanOf_62 hl (by decide) rfl (fun ls hl => ?_)
        refine lv_iinc (v := x10 + 1) (lv' := [(10, .int (x10 + 1)), (8, .long (x8 / 10)), (6, .long (x6 * (Int32.toInt64 (10 - x0)))), (4, .long (x4 + ((x6 * ((Int32.toInt64 (x0 * x1)) - ((10 * (Int32.toInt64 x10)) * (Int32.toInt64 x2)))) * x8))), (0, .int x0), (1, .int x1), (2, .int x2), (3, .int x3)]) hx hb dX12_meanOf_64 hl (k := 7) rfl (k_inc (by decide)) (by decide) rfl (fun ls hl => ?_)
        refine lv_goto (tgt := 14) hx hb dX12_meanOf_67 (by decide) ?_
        exact ih_14 x0 x1 x2 x3 (x4 + ((x6 * ((Int32.toInt64 (x0 * x1)) - ((10 * (Int32.toInt64 x10)) * (Int32.toInt64 x2)))) * x8)) (x6 * (Int32.toInt64 (10 - x0))) (x8 / 10) (x10 + 1) S _ _ _ hw hP hD hS (lv_sub hl [4, 5, 6, 7, 3, 2, 1, 0] rfl)
  refine lv_lconst (v := 0) hx hb dX12_meanOf_0 (by decide) ?_
  refine lv_lstore (lv' := [(4, .long 0), (0, .int p1), (1, .int p2), (2, .int p3), (3, .int p4)]) hx hb dX12_meanOf_1 hl (by decide) rfl (fun ls hl => ?_)
  refine lv_lconst (v := 1) hx hb dX12_meanOf_3 (by decide) ?_
  refine lv_lstore (lv' := [(6, .long 1), (4, .long 0), (0, .int p1), (1, .int p2), (2, .int p3), (3, .int p4)]) hx hb dX12_meanOf_4 hl (by decide) rfl (fun ls hl => ?_)
  refine lv_ldc2 (v := 100000) hx hb hown wc461 dX12_meanOf_6 ?_
  refine lv_lstore (lv' := [(8, .long 100000), (6, .long 1), (4, .long 0), (0, .int p1), (1, .int p2), (2, .int p3), (3, .int p4)]) hx hb dX12_meanOf_9 hl (by decide) rfl (fun ls hl => ?_)
  refine lv_iconst (v := 1) hx hb dX12_meanOf_11 (by decide) ?_
  refine lv_istore (lv' := [(10, .int 1), (8, .long 100000), (6, .long 1), (4, .long 0), (0, .int p1), (1, .int p2), (2, .int p3), (3, .int p4)]) hx hb dX12_meanOf_12 hl (by decide) rfl (fun ls hl => ?_)
  obtain ⟨n_14, hw⟩ := hw
  exact L_14 n_14 p1 p2 p3 p4 0 1 100000 1 S _ _ _ hw hP hD hS (lv_sub hl [4, 5, 6, 7, 3, 2, 1, 0] rfl)
def wM_stays_54 (post : Int32 → MS → Prop) : Nat → Int32 → Int32 → Int32 → Int32 → Int32 → Int64 → Int32 → MS → Prop
  | 0, _, _, _, _, _, _, _, _ => False
  | n + 1, x1, x2, x3, x4, x5, x6, x8, S => ((7 ≤ x8 → wM_common x6 1000000 S (fun r_2 S_3 => ((x4 = 0 → post x5 S_3) ∧ (¬ (x4 = 0) → ((x4 = 1 → (¬ r_2 = 0 ∧ post (Int64.toInt32 (x6 / r_2)) S_3)) ∧ (¬ (x4 = 1) → (¬ r_2 = 0 ∧ post (Int64.toInt32 (1000000 / r_2)) S_3))))))) ∧ (¬ (7 ≤ x8) → wM_meanOf x1 x2 x3 x8 S (fun r_8 S_9 => ((x6 < r_8 → wM_stays_54 post n x1 x2 x3 x4 x8 r_8 (x8 + 1) S_9) ∧ (¬ (x6 < r_8) → wM_stays_54 post n x1 x2 x3 x4 x5 x6 (x8 + 1) S_9)))))
def wM_stays (p1 : Int32) (p2 : Int32) (p3 : Int32) (p4 : Int32) (S : MS) (post : Int32 → MS → Prop) : Prop := wM_isIn p1 0 10 S (fun r_1 S_2 => ((r_1 = 0 → post (-100000) S_2) ∧ (¬ (r_1 = 0) → wM_isIn p2 0 999 S_2 (fun r_4 S_5 => ((r_4 = 0 → post (-100000) S_5) ∧ (¬ (r_4 = 0) → wM_isIn p3 0 99 S_5 (fun r_7 S_8 => ((r_7 = 0 → post (-100000) S_8) ∧ (¬ (r_7 = 0) → wM_isIn p4 0 2 S_8 (fun r_10 S_11 => ((r_10 = 0 → post (-100000) S_11) ∧ (¬ (r_10 = 0) → ∃ k_ : Nat, wM_stays_54 post k_ p1 p2 p3 p4 0 0 1 S_11))))))))))))
set_option maxHeartbeats 4000000 in
set_option maxRecDepth 100000 in
theorem cM_stays (l : Launch) (D : va_G) (h : Nat → Nat) (cy : Nat → ClassId) (p1 : Int32) (p2 : Int32) (p3 : Int32) (p4 : Int32) (S : MS) (post : Int32 → MS → Prop) (hw : wM_stays p1 p2 p3 p4 S post) : k_Mi l yX12_stays wsX12_stays { frames := 1, cells := 0, slots := 0, locals := 30 } D (tyM cy) (wM h cy) [.ref (h 31), .int p1, .int p2, .int p3, .int p4] S post := by
  intro sz
  refine Met.ofW (cc := cX12_stays) (maxL := 11) (ret := (some .int)) (by decide) rfl ?_
  intro p e s m args below meth c s₁ B hml hv
  obtain ⟨rfl, hsz, hP, hK, hD0⟩ := hv
  have hx := B.exec
  have hb := B.bytes
  have hr := B.returns
  have hts := atoms_spec (ws := wsX12_stays) B.pre
  have hown : s.vm.findClass RX12 = some m.cls := findClass_of_methodNamed B.named
  have hlocks := B.notSynchronized
  subst hsz
  have hD := hD0.self (sz := s.heap.size)
  generalize hAe : va_A (wM h cy S) s.heap.size = A at hD ⊢
  have hA : ∀ q : Nat, s.heap.size ≤ q → A q := fun q h => by rw [← hAe]; exact Or.inr h
  have hS : va_S A s.heap s.heap [] := va_S.rf
  have wc275 := hts (.constantLong RX12 275 (1000000)) (List.mem_of_getElem? (i := 2) rfl)
  have wc465 := hts (.constant RX12 465 (-100000)) (List.mem_of_getElem? (i := 1) rfl)
  have hl := lv_entry ([.ref (h 31), .int p1, .int p2, .int p3, .int p4]) (n := 11) (Nat.le_of_ble_eq_true rfl)
  rw [lg_entry_eq]
  generalize (lg_sl ([.ref (h 31), .int p1, .int p2, .int p3, .int p4]) ++ List.replicate (11 - (lg_sl ([.ref (h 31), .int p1, .int p2, .int p3, .int p4])).length) Slot.unset).toArray = ls at hl ⊢
  have hl : lv_has ls 11 [(0, .ref (h 31)), (1, .int p1), (2, .int p2), (3, .int p3), (4, .int p4)] := hl
  unfold wM_stays at hw
  clear hD0
  have L_54 : ∀ (n54 : Nat) (x1 : Int32) (x2 : Int32) (x3 : Int32) (x4 : Int32) (x5 : Int32) (x6 : Int64) (x8 : Int32) (S : MS) (H : Heap) (locs : List Loc) (ls : Array Slot), wM_stays_54 post n54 x1 x2 x3 x4 x5 x6 x8 S → va_P D vwCl (wM h cy S) H → va_D A (wM h cy S) → va_S A s.heap H locs → lv_has ls 11 [(1, .int x1), (2, .int x2), (3, .int x3), (4, .int x4), (5, .int x5), (6, .long x6), (8, .int x8)] → W p l e (headSpec wsX12_stays { frames := 1, cells := 0, slots := 0, locals := 30 }).room s m (([.ref (h 31), .int p1, .int p2, .int p3, .int p4] : List Value).toArray) below meth c H locs 0 0 (MQ below (va_Qi post (k_Post D (tyM cy) (wM h cy) A) A) (([.ref (h 31), .int p1, .int p2, .int p3, .int p4] : List Value).toArray) s 0 0 A) (F0 m 54 ls []) := by
    intro n54
    induction n54 with
    | zero => intro x1 x2 x3 x4 x5 x6 x8 S H locs ls hw; exact False.elim hw
    | succ n54 ih_54 =>
      intro x1 x2 x3 x4 x5 x6 x8 S H locs ls hw hP hD hS hl
      unfold wM_stays_54 at hw
      refine lv_iload hx hb dX12_stays_54 (lv_at hl 6 rfl) ?_
      refine lv_bipush (v := 7) hx hb dX12_stays_56 (by decide) ?_
      obtain ⟨hc_1t, hc_1f⟩ := hw
      refine lv_icmp_ge (tgt := 96) hx hb dX12_stays_58 (by decide) (fun c_1 => ?_) (fun c_1 => ?_)
      · have hw := hc_1t c_1
        clear hc_1t hc_1f
        refine lv_lload hx hb dX12_stays_96 (lv_at hl 5 rfl) ?_
        refine lv_ldc2 (v := 1000000) hx hb hown wc275 dX12_stays_98 ?_
        refine k_callSl (As := [.long x6, .long 1000000]) (rest := []) ⟨hx, hb, hml, hown, hts⟩ (cM_common l D h cy _ _ _ _ hw) (va_cwS 2 hts gX12_stays_X12_common rfl rfl rfl (by decide +kernel) ⟨Nat.le_of_ble_eq_true rfl, Nat.le_of_ble_eq_true rfl⟩) hK hP hD hS hA rfl hl.1 rfl (Nat.le_of_ble_eq_true rfl) dX12_stays_101 ⟨Nat.zero_le _, Nat.zero_le _⟩ (fun r_2 S_3 H locs hw hP hD hS => ?_)
        refine lv_lstore (lv' := [(8, .long r_2), (1, .int x1), (2, .int x2), (3, .int x3), (4, .int x4), (5, .int x5), (6, .long x6)]) hx hb dX12_stays_104 hl (by decide) rfl (fun ls hl => ?_)
        refine lv_iload hx hb dX12_stays_106 (lv_at hl 4 rfl) ?_
        obtain ⟨hc_4t, hc_4f⟩ := hw
        refine lv_if_ne (tgt := 116) hx hb dX12_stays_108 (by decide) (fun c_4 => ?_) (fun c_4 => ?_)
        · have hw := hc_4f c_4
          clear hc_4t hc_4f
          refine lv_iload hx hb dX12_stays_116 (lv_at hl 4 rfl) ?_
          refine lv_iconst (v := 1) hx hb dX12_stays_118 (by decide) ?_
          obtain ⟨hc_5t, hc_5f⟩ := hw
          refine lv_icmp_ne (tgt := 127) hx hb dX12_stays_119 (by decide) (fun c_5 => ?_) (fun c_5 => ?_)
          · have hw := hc_5f c_5
            clear hc_5t hc_5f
            refine lv_ldc2 (v := 1000000) hx hb hown wc275 dX12_stays_127 ?_
            refine lv_lload hx hb dX12_stays_130 (lv_at hl 0 rfl) ?_
            obtain ⟨hz_6, hw⟩ := hw
            refine lv_ldiv hx hb dX12_stays_132 hz_6 ?_
            refine lv_l2i (v := Int64.toInt32 (1000000 / r_2)) hx hb dX12_stays_133 rfl ?_
            exact W.iret (v := Int64.toInt32 (1000000 / r_2)) hx hb hr (fun t ht hW => ⟨⟨Int64.toInt32 (1000000 / r_2), S_3, rfl, hw, by rw [ht]; exact hP, va_K.moved hW.alike hK, hD⟩, hS.F ht⟩) hS.2.2 dX12_stays_134
          · have hw := hc_5t c_5
            clear hc_5t hc_5f
            refine lv_lload hx hb dX12_stays_122 (lv_at hl 6 rfl) ?_
            refine lv_goto (tgt := 130) hx hb dX12_stays_124 (by decide) ?_
            refine lv_lload hx hb dX12_stays_130 (lv_at hl 0 rfl) ?_
            obtain ⟨hz_7, hw⟩ := hw
            refine lv_ldiv hx hb dX12_stays_132 hz_7 ?_
            refine lv_l2i (v := Int64.toInt32 (x6 / r_2)) hx hb dX12_stays_133 rfl ?_
            exact W.iret (v := Int64.toInt32 (x6 / r_2)) hx hb hr (fun t ht hW => ⟨⟨Int64.toInt32 (x6 / r_2), S_3, rfl, hw, by rw [ht]; exact hP, va_K.moved hW.alike hK, hD⟩, hS.F ht⟩) hS.2.2 dX12_stays_134
        · have hw := hc_4t c_4
          clear hc_4t hc_4f
          refine lv_iload hx hb dX12_stays_111 (lv_at hl 5 rfl) ?_
          refine lv_goto (tgt := 134) hx hb dX12_stays_113 (by decide) ?_
          exact W.iret (v := x5) hx hb hr (fun t ht hW => ⟨⟨x5, S_3, rfl, hw, by rw [ht]; exact hP, va_K.moved hW.alike hK, hD⟩, hS.F ht⟩) hS.2.2 dX12_stays_134
      · have hw := hc_1f c_1
        clear hc_1t hc_1f
        refine lv_iload_n hx hb dX12_stays_61 rfl (lv_at hl 0 rfl) ?_
        refine lv_iload_n hx hb dX12_stays_62 rfl (lv_at hl 1 rfl) ?_
        refine lv_iload_n hx hb dX12_stays_63 rfl (lv_at hl 2 rfl) ?_
        refine lv_iload hx hb dX12_stays_64 (lv_at hl 6 rfl) ?_
        refine k_callSl (As := [.int x1, .int x2, .int x3, .int x8]) (rest := []) ⟨hx, hb, hml, hown, hts⟩ (cM_meanOf l D h cy _ _ _ _ _ _ hw) (va_cwS 4 hts gX12_stays_X12_meanOf rfl rfl rfl (by decide +kernel) ⟨Nat.le_of_ble_eq_true rfl, Nat.le_of_ble_eq_true rfl⟩) hK hP hD hS hA rfl hl.1 rfl (Nat.le_of_ble_eq_true rfl) dX12_stays_66 ⟨Nat.zero_le _, Nat.zero_le _⟩ (fun r_8 S_9 H locs hw hP hD hS => ?_)
        refine lv_lstore (lv' := [(9, .long r_8), (1, .int x1), (2, .int x2), (3, .int x3), (4, .int x4), (5, .int x5), (6, .long x6), (8, .int x8)]) hx hb dX12_stays_69 hl (by decide) rfl (fun ls hl => ?_)
        refine lv_lload hx hb dX12_stays_71 (lv_at hl 0 rfl) ?_
        refine lv_lload hx hb dX12_stays_73 (lv_at hl 6 rfl) ?_
        refine W.lcmp hx hb dX12_stays_75 ?_
        obtain ⟨hc_10t, hc_10f⟩ := hw
        refine lv_if_gt (tgt := 82) hx hb dX12_stays_76 (by decide) (fun c_10 => ?_) (fun c_10 => ?_)
        · have hw := hc_10t ((k_cgt _ _).mp c_10)
          clear hc_10t hc_10f
          refine lv_lload hx hb dX12_stays_82 (lv_at hl 0 rfl) ?_
          refine lv_lstore (lv' := [(6, .long r_8), (9, .long r_8), (1, .int x1), (2, .int x2), (3, .int x3), (4, .int x4), (5, .int x5), (8, .int x8)]) hx hb dX12_stays_84 hl (by decide) rfl (fun ls hl => ?_)
          refine lv_iload hx hb dX12_stays_86 (lv_at hl 7 rfl) ?_
          refine lv_istore (lv' := [(5, .int x8), (6, .long r_8), (9, .long r_8), (1, .int x1), (2, .int x2), (3, .int x3), (4, .int x4), (8, .int x8)]) hx hb dX12_stays_88 hl (by decide) rfl (fun ls hl => ?_)
          refine lv_iinc (v := x8 + 1) (lv' := [(8, .int (x8 + 1)), (5, .int x8), (6, .long r_8), (9, .long r_8), (1, .int x1), (2, .int x2), (3, .int x3), (4, .int x4)]) hx hb dX12_stays_90 hl (k := 7) rfl (k_inc (by decide)) (by decide) rfl (fun ls hl => ?_)
          refine lv_goto (tgt := 54) hx hb dX12_stays_93 (by decide) ?_
          exact ih_54 x1 x2 x3 x4 x8 r_8 (x8 + 1) S_9 _ _ _ hw hP hD hS (lv_sub hl [4, 5, 6, 7, 1, 2, 0] rfl)
        · have hw := hc_10f (fun q => c_10 ((k_cgt _ _).mpr q))
          clear hc_10t hc_10f
          refine lv_goto (tgt := 90) hx hb dX12_stays_79 (by decide) ?_
          refine lv_iinc (v := x8 + 1) (lv' := [(8, .int (x8 + 1)), (9, .long r_8), (1, .int x1), (2, .int x2), (3, .int x3), (4, .int x4), (5, .int x5), (6, .long x6)]) hx hb dX12_stays_90 hl (k := 7) rfl (k_inc (by decide)) (by decide) rfl (fun ls hl => ?_)
          refine lv_goto (tgt := 54) hx hb dX12_stays_93 (by decide) ?_
          exact ih_54 x1 x2 x3 x4 x5 x6 (x8 + 1) S_9 _ _ _ hw hP hD hS (lv_sub hl [2, 3, 4, 5, 6, 7, 0] rfl)
  refine lv_iload_n hx hb dX12_stays_0 rfl (lv_at hl 1 rfl) ?_
  refine lv_iconst (v := 0) hx hb dX12_stays_1 (by decide) ?_
  refine lv_bipush (v := 10) hx hb dX12_stays_2 (by decide) ?_
  refine k_callSi (As := [.int p1, .int 0, .int 10]) (rest := []) ⟨hx, hb, hml, hown, hts⟩ (cM_isIn l D h cy _ _ _ _ _ hw) (va_cwS 3 hts gX12_stays_X12_isIn rfl rfl rfl (by decide +kernel) ⟨Nat.le_of_ble_eq_true rfl, Nat.le_of_ble_eq_true rfl⟩) hK hP hD hS hA rfl hl.1 rfl (Nat.le_of_ble_eq_true rfl) dX12_stays_4 ⟨Nat.zero_le _, Nat.zero_le _⟩ (fun r_11 S_12 H locs hw hP hD hS => ?_)
  obtain ⟨hc_13t, hc_13f⟩ := hw
  refine lv_if_eq (tgt := 41) hx hb dX12_stays_7 (by decide) (fun c_13 => ?_) (fun c_13 => ?_)
  · have hw := hc_13t c_13
    clear hc_13t hc_13f
    refine lv_ldcw (v := (-100000)) hx hb hown wc465 dX12_stays_41 ?_
    exact W.iret (v := (-100000)) hx hb hr (fun t ht hW => ⟨⟨(-100000), S_12, rfl, hw, by rw [ht]; exact hP, va_K.moved hW.alike hK, hD⟩, hS.F ht⟩) hS.2.2 dX12_stays_44
  · have hw := hc_13f c_13
    clear hc_13t hc_13f
    refine lv_iload_n hx hb dX12_stays_10 rfl (lv_at hl 2 rfl) ?_
    refine lv_iconst (v := 0) hx hb dX12_stays_11 (by decide) ?_
    refine lv_sipush (v := 999) hx hb dX12_stays_12 (by decide) ?_
    refine k_callSi (As := [.int p2, .int 0, .int 999]) (rest := []) ⟨hx, hb, hml, hown, hts⟩ (cM_isIn l D h cy _ _ _ _ _ hw) (va_cwS 3 hts gX12_stays_X12_isIn rfl rfl rfl (by decide +kernel) ⟨Nat.le_of_ble_eq_true rfl, Nat.le_of_ble_eq_true rfl⟩) hK hP hD hS hA rfl hl.1 rfl (Nat.le_of_ble_eq_true rfl) dX12_stays_15 ⟨Nat.zero_le _, Nat.zero_le _⟩ (fun r_14 S_15 H locs hw hP hD hS => ?_)
    obtain ⟨hc_16t, hc_16f⟩ := hw
    refine lv_if_eq (tgt := 41) hx hb dX12_stays_18 (by decide) (fun c_16 => ?_) (fun c_16 => ?_)
    · have hw := hc_16t c_16
      clear hc_16t hc_16f
      refine lv_ldcw (v := (-100000)) hx hb hown wc465 dX12_stays_41 ?_
      exact W.iret (v := (-100000)) hx hb hr (fun t ht hW => ⟨⟨(-100000), S_15, rfl, hw, by rw [ht]; exact hP, va_K.moved hW.alike hK, hD⟩, hS.F ht⟩) hS.2.2 dX12_stays_44
    · have hw := hc_16f c_16
      clear hc_16t hc_16f
      refine lv_iload_n hx hb dX12_stays_21 rfl (lv_at hl 3 rfl) ?_
      refine lv_iconst (v := 0) hx hb dX12_stays_22 (by decide) ?_
      refine lv_bipush (v := 99) hx hb dX12_stays_23 (by decide) ?_
      refine k_callSi (As := [.int p3, .int 0, .int 99]) (rest := []) ⟨hx, hb, hml, hown, hts⟩ (cM_isIn l D h cy _ _ _ _ _ hw) (va_cwS 3 hts gX12_stays_X12_isIn rfl rfl rfl (by decide +kernel) ⟨Nat.le_of_ble_eq_true rfl, Nat.le_of_ble_eq_true rfl⟩) hK hP hD hS hA rfl hl.1 rfl (Nat.le_of_ble_eq_true rfl) dX12_stays_25 ⟨Nat.zero_le _, Nat.zero_le _⟩ (fun r_17 S_18 H locs hw hP hD hS => ?_)
      obtain ⟨hc_19t, hc_19f⟩ := hw
      refine lv_if_eq (tgt := 41) hx hb dX12_stays_28 (by decide) (fun c_19 => ?_) (fun c_19 => ?_)
      · have hw := hc_19t c_19
        clear hc_19t hc_19f
        refine lv_ldcw (v := (-100000)) hx hb hown wc465 dX12_stays_41 ?_
        exact W.iret (v := (-100000)) hx hb hr (fun t ht hW => ⟨⟨(-100000), S_18, rfl, hw, by rw [ht]; exact hP, va_K.moved hW.alike hK, hD⟩, hS.F ht⟩) hS.2.2 dX12_stays_44
      · have hw := hc_19f c_19
        clear hc_19t hc_19f
        refine lv_iload hx hb dX12_stays_31 (lv_at hl 4 rfl) ?_
        refine lv_iconst (v := 0) hx hb dX12_stays_33 (by decide) ?_
        refine lv_iconst (v := 2) hx hb dX12_stays_34 (by decide) ?_
        refine k_callSi (As := [.int p4, .int 0, .int 2]) (rest := []) ⟨hx, hb, hml, hown, hts⟩ (cM_isIn l D h cy _ _ _ _ _ hw) (va_cwS 3 hts gX12_stays_X12_isIn rfl rfl rfl (by decide +kernel) ⟨Nat.le_of_ble_eq_true rfl, Nat.le_of_ble_eq_true rfl⟩) hK hP hD hS hA rfl hl.1 rfl (Nat.le_of_ble_eq_true rfl) dX12_stays_35 ⟨Nat.zero_le _, Nat.zero_le _⟩ (fun r_20 S_21 H locs hw hP hD hS => ?_)
        obtain ⟨hc_22t, hc_22f⟩ := hw
        refine lv_if_ne (tgt := 45) hx hb dX12_stays_38 (by decide) (fun c_22 => ?_) (fun c_22 => ?_)
        · have hw := hc_22f c_22
          clear hc_22t hc_22f
          refine lv_iconst (v := 0) hx hb dX12_stays_45 (by decide) ?_
          refine lv_istore (lv' := [(5, .int 0), (0, .ref (h 31)), (1, .int p1), (2, .int p2), (3, .int p3), (4, .int p4)]) hx hb dX12_stays_46 hl (by decide) rfl (fun ls hl => ?_)
          refine lv_lconst (v := 0) hx hb dX12_stays_48 (by decide) ?_
          refine lv_lstore (lv' := [(6, .long 0), (5, .int 0), (0, .ref (h 31)), (1, .int p1), (2, .int p2), (3, .int p3), (4, .int p4)]) hx hb dX12_stays_49 hl (by decide) rfl (fun ls hl => ?_)
          refine lv_iconst (v := 1) hx hb dX12_stays_51 (by decide) ?_
          refine lv_istore (lv' := [(8, .int 1), (6, .long 0), (5, .int 0), (0, .ref (h 31)), (1, .int p1), (2, .int p2), (3, .int p3), (4, .int p4)]) hx hb dX12_stays_52 hl (by decide) rfl (fun ls hl => ?_)
          obtain ⟨n_54, hw⟩ := hw
          exact L_54 n_54 p1 p2 p3 p4 0 0 1 S_21 _ _ _ hw hP hD hS (lv_sub hl [4, 5, 6, 7, 2, 1, 0] rfl)
        · have hw := hc_22t c_22
          clear hc_22t hc_22f
          refine lv_ldcw (v := (-100000)) hx hb hown wc465 dX12_stays_41 ?_
          exact W.iret (v := (-100000)) hx hb hr (fun t ht hW => ⟨⟨(-100000), S_21, rfl, hw, by rw [ht]; exact hP, va_K.moved hW.alike hK, hD⟩, hS.F ht⟩) hS.2.2 dX12_stays_44
